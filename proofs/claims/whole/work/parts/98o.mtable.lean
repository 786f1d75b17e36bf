/-! the reference: sayTable -/
theorem kU_pad {tb : Nat} (htb : tb < 3) : ∀ s, lT tb < s → kU tb s = 1 := by
  intro s hs
  have hl : (sTab.getD tb []).length ≤ lT tb + 1 := by
    obtain rfl | rfl | rfl : tb = 0 ∨ tb = 1 ∨ tb = 2 := by omega
    all_goals decide
  unfold kU
  rw [List.getD_eq_getElem?_getD, List.getElem?_eq_none (by omega)]
  rfl
theorem kn_ok {tb : Nat} (htb : tb < 3) : TbOk (lT tb) (2 ^ gT tb) (tKn tb) := by
  refine ⟨?_, ?_, ?_, kU_pad htb, ?_⟩
  all_goals
    obtain rfl | rfl | rfl : tb = 0 ∨ tb = 1 ∨ tb = 2 := by omega
    all_goals decide +kernel
noncomputable def mdB (ss : List Nat) (G md : Nat) : Nat × Nat := if md = 1 then (8, ss.getD 0 0) else if md = 2 then (8 * (((shB (wU (cdF ss).1 (boF ss (G - 4)).1 64) (boF ss (G - 4)).1 (0, 0)).1 + 7) / 8), (shB (wU (cdF ss).1 (boF ss (G - 4)).1 64) (boF ss (G - 4)).1 (0, 0)).2) else (0, 0)
def StM (b : Nat × Nat) (m5 v6 : Int32) : Prop := (b.1 = 9 ∧ b.2 = 2 ^ 30 ∧ m5 = -1) ∨ (b.1 ≤ 3 ∧ b.2 < 2 ^ 20 ∧ m5 = nI b.1 ∧ v6 = nI b.2)
theorem i_and {P : Prop} {Q : Prop} (hp : P) (hq : Q) : P ∧ Q := ⟨hp, hq⟩
set_option maxRecDepth 20000 in
theorem m_sayTable {d n s : Nat} {h : Nat → aE} {m : Nat} {I : Nat → Int32} {AR : Nat → Nat → Int32} {LN : Nat → Int64} {tb c0 w0 : Nat} {ss : List Nat} {tH : Option Tb} (hm : m + 43 < n) (M_h : MAt h m I AR LN) (htb : tb < 3) (hok : SyOk ss) (hs : ∀ s, s ∈ ss → s ≤ lT tb) (hss : SyM AR tb ss) (hM : MadeIs I AR c0 w0) (hR : RefT AR tb tH) (hH : TbO (lT tb) (2 ^ gT tb) tH) (hAl : Alo tH) (K_I_31 : I 31 = (nI ss.length)) {Ψ : Option Value → aH → Prop} (kk : ∀ h' I' A', Fr h h' (inM m) → MAt h' m I' A' LN → Fi I I' (fun f => f = 38) → FaS AR A' (fun b => b = 9 ∨ b = 10 ∨ b = 24 ∨ (26 ≤ b ∧ b ≤ 33)) → (∀ q, q ≠ tb → A' 10 q = AR 10 q) → (∀ q, q < 64 * tb ∨ 64 * tb + 64 ≤ q → A' 9 q = AR 9 q) → RefT A' tb (some (chT (tKn tb) tH (gT tb) ss (chF (tKn tb) tH (gT tb) ss).1)) → MadeIs I' A' (mdB ss (gT tb) (chF (tKn tb) tH (gT tb) ss).1).1 (mdB ss (gT tb) (chF (tKn tb) tH (gT tb) ss).1).2 → Ψ (some (.int (nI (chF (tKn tb) tH (gT tb) ss).1))) (n, s, h')) : WO (mM (d + 6)) 195 [.ref m, .int (nI tb)] (n, s, h) Ψ := by
  refine WO.of (Nat.le_of_ble_eq_true rfl) ?_
  have FR_h : Fr h h (inM m) := Fr.rf
  have FI_I : Fi I I (fun f => f = 38) := Fi.rf
  have FA_AR : FaS AR AR (fun b => b = 24 ∨ (26 ≤ b ∧ b ≤ 33)) := FaS.rf
  obtain ⟨hok1, hok2, hok3⟩ := id hok
  have hd64 := cd_le hok.1
  have hKn := kn_ok htb
  have hlT : lT tb < 64 := by unfold lT; split; decide; split <;> decide
  have hG6 : 6 ≤ gT tb := by unfold gT; split <;> decide
  have hG9 : gT tb ≤ 9 := by unfold gT; split <;> decide
  have hkO : 5 ≤ kO tb ∧ kO tb ≤ 9 := by unfold kO; split <;> decide
  obtain ⟨bo1, bo2, bo3, bo4, bo5⟩ := bo_fin hok hG6 hG9
  have hx0 := hok1 _ (getD_mem (show 0 < ss.length by omega))
  have hKS := (tb_pad hKn hlT).1
  generalize hcf : chF (tKn tb) tH (gT tb) ss = cf at kk
  unfold chF at hcf
  generalize ecA : chA (tabC (tKn tb) ss) = bA at hcf
  generalize ecB : chB (cdF ss).2 bA = bB at hcf
  generalize ecC : chC (boF ss (gT tb - 4)) bB = bC at hcf
  have hfin := chF_fin hok hlT hG6 hG9 rfl hs hKn hH ecA ecB ecC hcf
  show WX (lk tX12_sayTable) (mM (d + 5)) Ψ 0 [(0, .ref m), (1, .int (nI tb))] [] (n, s, h)
  refine WX.s1 rfl rfl ?_
  refine WX.s1 rfl rfl ?_
  refine WX.s1 (S' := [.int (64 * (nI tb))]) rfl rfl ?_
  rw [show (64 * (nI tb)) = nI (64 * tb) from (Int32.ofNat_mul 64 tb).symm]
  refine WX.s1 (L' := [(0, .ref m), (1, .int (nI tb)), (2, .int (nI (64 * tb)))]) rfl rfl ?_
  refine WX.s1 rfl rfl ?_
  refine WX.mget rfl hm M_h rfl ?_
  refine WX.s1 rfl rfl ?_
  refine WX.s1 rfl rfl ?_
  refine WX.s1 (S' := [.int (8001 * (nI tb)), .ref (m + 21)]) rfl rfl ?_
  rw [show (8001 * (nI tb)) = nI (8001 * tb) from (Int32.ofNat_mul 8001 tb).symm]
  refine WX.mald (c := 21) rfl hm M_h (by decide) (by decide) (by decide) (by decide) (vp_in_nI (N := 24003) (by omega) (by decide)) ?_
  rw [nI_clamp (by omega), show AR 21 (8001 * tb) = nI (ss.getD 0 0) from (hss 0 (by omega)).1]
  refine WX.s1 (L' := [(0, .ref m), (1, .int (nI tb)), (2, .int (nI (64 * tb))), (3, .int (nI (ss.getD 0 0)))]) rfl rfl ?_
  refine WX.s1 rfl rfl ?_
  refine WX.s1 rfl rfl ?_
  refine WX.callC (vs := [.ref m, .int (nI tb)]) rfl rfl rfl (Nat.le_of_ble_eq_true rfl) (M_h.rcv hm) ?_
  refine m_countS hm M_h htb hok3 hss K_I_31 (fun h18n1 A18n1 fr18n1 M_h18n1 fa18n1 hC0 => ?_)
  have FR_h18n1 := FR_h.ztr fr18n1
  have FA_A18n1 : FaS AR A18n1 (fun b => b = 24 ∨ (26 ≤ b ∧ b ≤ 33)) := FA_AR.ztr (fa18n1.mono (fun x hx => by omega))
  have hM0 := hM.mv (fa18n1 24 (by decide))
  show WX _ _ _ 21 [(0, .ref m), (1, .int (nI tb)), (2, .int (nI (64 * tb))), (3, .int (nI (ss.getD 0 0)))] [.int (nI (cdF ss).2)] (n, s, h18n1)
  refine WX.s1 (L' := [(0, .ref m), (1, .int (nI tb)), (2, .int (nI (64 * tb))), (3, .int (nI (ss.getD 0 0))), (4, .int (nI (cdF ss).2))]) rfl rfl ?_
  refine WX.s1 rfl rfl ?_
  refine WX.s1 (L' := [(0, .ref m), (1, .int (nI tb)), (2, .int (nI (64 * tb))), (3, .int (nI (ss.getD 0 0))), (4, .int (nI (cdF ss).2)), (5, .int (-1))]) rfl rfl ?_
  refine WX.s1 rfl rfl ?_
  refine WX.s1 (L' := [(0, .ref m), (1, .int (nI tb)), (2, .int (nI (64 * tb))), (3, .int (nI (ss.getD 0 0))), (4, .int (nI (cdF ss).2)), (5, .int (-1)), (6, .int 0)]) rfl rfl ?_
  refine WX.s1 rfl rfl ?_
  refine WX.s1 rfl rfl ?_
  refine WX.callC (vs := [.ref m, .int (nI tb)]) rfl rfl rfl (Nat.le_of_ble_eq_true rfl) (M_h18n1.rcv hm) ?_
  refine m_know hm M_h18n1 htb (fun h31n2 A31n2 fr31n2 M_h31n2 fa31n2 hKU => ?_)
  have FR_h31n2 := FR_h18n1.ztr fr31n2
  have FA_A31n2 : FaS AR A31n2 (fun b => b = 24 ∨ (26 ≤ b ∧ b ≤ 33)) := FA_A18n1.ztr (fa31n2.mono (fun x hx => by omega))
  have hM1 := hM0.mv (fa31n2 24 (by decide))
  show WX _ _ _ 34 [(0, .ref m), (1, .int (nI tb)), (2, .int (nI (64 * tb))), (3, .int (nI (ss.getD 0 0))), (4, .int (nI (cdF ss).2)), (5, .int (-1)), (6, .int 0)] [.int (nI (kO tb))] (n, s, h31n2)
  refine WX.s1 (L' := [(0, .ref m), (1, .int (nI tb)), (2, .int (nI (64 * tb))), (3, .int (nI (ss.getD 0 0))), (4, .int (nI (cdF ss).2)), (5, .int (-1)), (6, .int 0), (7, .int (nI (kO tb)))]) rfl rfl ?_
  have t147 : ∀ (h2 : Nat → aE) (I2 : Nat → Int32) (A2 : Nat → Nat → Int32) (c2 w2 : Nat) (m5 v6 : Int32), Fr h h2 (inM m) → MAt h2 m I2 A2 LN → Fi I I2 (fun f => f = 38) → FaS AR A2 (fun b => b = 24 ∨ (26 ≤ b ∧ b ≤ 33)) → MadeIs I2 A2 c2 w2 → m5 = nI cf.1 → CntM A2 (cdF ss).1 → WX (lk tX12_sayTable) (mM (d + 5)) Ψ 147 [(0, .ref m), (1, .int (nI tb)), (2, .int (nI (64 * tb))), (3, .int (nI (ss.getD 0 0))), (4, .int (nI (cdF ss).2)), (5, .int m5), (6, .int v6), (9, .int (nI (boF ss (gT tb - 4)).1))] [] (n, s, h2) := by
    intro h2 I2 A2 c2 w2 m5 v6 FR_h2 M_h2 FI_I2 FA_A2 hM2 hSt
    have hss2 : SyM A2 tb ss := fun i hi => by rw [FA_A2 21 (by decide)]; exact hss i hi
    have K_I2_31 : I2 31 = nI ss.length := (FI_I2 31 (by decide)).trans K_I_31
    intro hC2
    obtain ⟨hc3, hc20, hc2, hTb, -, hcH⟩ := hfin
    subst hSt
    have hR2 : RefT A2 tb tH := by cases tH with | none => exact (congrFun (FA_A2 10 (by decide)) tb).trans hR | some t => exact ⟨(congrFun (FA_A2 10 (by decide)) tb).trans hR.1, fun s q => (congrFun (FA_A2 9 (by decide)) _).trans (hR.2 s q)⟩
    refine WX.s1 rfl rfl ?_
    refine WX.callC (vs := [.ref m]) rfl rfl rfl (Nat.le_of_ble_eq_true rfl) (M_h2.rcv hm) ?_
    refine m_beginV hm M_h2 hM2 (fun h148n3 I148n3 A148n3 fr148n3 M_h148n3 fi148n3 fa148n3 hM3 => ?_)
    have FR_h148n3 := FR_h2.ztr fr148n3
    have K_I148n3_31 : I148n3 31 = (nI ss.length) := (fi148n3 31 (by decide)).trans K_I2_31
    have FI_I148n3 : Fi I I148n3 (fun f => f = 38) := FI_I2.zsub fi148n3 (fun j hj => by first | exact hj | omega)
    have FA_A148n3 : FaS AR A148n3 (fun b => b = 24 ∨ (26 ≤ b ∧ b ≤ 33)) := FA_A2.ztr (fa148n3.toS (by omega))
    have hC3 : CntM A148n3 (cdF ss).1 := fun s hs => by rw [fa148n3 33 (by decide)]; exact hC2 s hs
    show WX _ _ _ 151 [(0, .ref m), (1, .int (nI tb)), (2, .int (nI (64 * tb))), (3, .int (nI (ss.getD 0 0))), (4, .int (nI (cdF ss).2)), (5, .int (nI cf.1)), (6, .int v6), (9, .int (nI (boF ss (gT tb - 4)).1))] [] (n, s, h148n3)
    have e10 : A148n3 10 = AR 10 := FA_A148n3 10 (by decide)
    have e9 : A148n3 9 = AR 9 := FA_A148n3 9 (by decide)
    have FB_A148n3 : FaS AR A148n3 (fun b => b = 9 ∨ b = 10 ∨ b = 24 ∨ (26 ≤ b ∧ b ≤ 33)) := FA_A148n3.mono (fun x hx => by omega)
    by_cases hmd : cf.1 = 0
    · rw [hmd] at kk hTb ⊢
      rw [show nI 0 = 0 from rfl]
      show WX _ _ _ 151 [(0, .ref m), (1, .int (nI tb)), (2, .int (nI (64 * tb))), (3, .int (nI (ss.getD 0 0))), (4, .int (nI (cdF ss).2)), (5, .int 0), (6, .int v6), (9, .int (nI (boF ss (gT tb - 4)).1))] [] (n, s, h148n3)
      have FA2_A148n3 := FB_A148n3
      clear FA_A148n3
      have FA_A148n3 := FA2_A148n3
      clear FA2_A148n3
      refine WX.s1 rfl rfl ?_
      refine WX.s1 rfl rfl ?_
      refine WX.icmp rfl (fun c_154 => ?_) (fun c_154 => absurd (by decide) c_154)
      clear c_154
      refine WX.s1 rfl rfl ?_
      refine WX.if_ rfl (fun c_166 => absurd c_166 (by decide)) (fun c_166 => ?_)
      clear c_166
      refine WX.s1 rfl rfl ?_
      refine WX.mget rfl hm M_h148n3 rfl ?_
      refine WX.s1 rfl rfl ?_
      refine WX.s1 rfl rfl ?_
      refine WX.s1 rfl rfl ?_
      refine WX.callC (vs := [.ref m, .int (nI tb)]) rfl rfl rfl (Nat.le_of_ble_eq_true rfl) (M_h148n3.rcv hm) ?_
      refine m_know hm M_h148n3 htb (fun h176n4 A176n4 fr176n4 M_h176n4 fa176n4 hKU2 => ?_)
      have FR_h176n4 := FR_h148n3.ztr fr176n4
      have FA_A176n4 : FaS AR A176n4 (fun b => b = 9 ∨ b = 10 ∨ b = 24 ∨ (26 ≤ b ∧ b ≤ 33)) := FA_A148n3.ztr (fa176n4.mono (fun x hx => by omega))
      have g10 : A176n4 10 = AR 10 := (fa176n4 10 (by decide)).trans e10
      have g9 : A176n4 9 = AR 9 := (fa176n4 9 (by decide)).trans e9
      have hM4 := hM3.mv (fa176n4 24 (by decide))
      show WX _ _ _ 179 [(0, .ref m), (1, .int (nI tb)), (2, .int (nI (64 * tb))), (3, .int (nI (ss.getD 0 0))), (4, .int (nI (cdF ss).2)), (5, .int 0), (6, .int v6), (9, .int (nI (boF ss (gT tb - 4)).1))] [.int (nI (kO tb)), .int (nI tb), .ref (m + 10)] (n, s, h176n4)
      refine WX.mast (c := 10) rfl hm M_h176n4 (by decide) (by decide) (by decide) (by decide) (vp_in_nI (N := 3) (by omega) (by decide)) (fun h179n5 A179n5 e_A179n5 M_h179n5 frh179n5 => ?_)
      try dsimp only at e_A179n5
      have FR_h179n5 := FR_h176n4.ztr frh179n5
      clear M_h176n4 FR_h176n4 frh179n5
      rw [nI_clamp (by omega)] at e_A179n5
      have FA_A179n5 : FaS AR A179n5 (fun b => b = 9 ∨ b = 10 ∨ b = 24 ∨ (26 ≤ b ∧ b ≤ 33)) := FA_A176n4.ast e_A179n5 (by decide)
      have hQ10 : (∀ q, q ≠ tb → A179n5 10 q = AR 10 q) ∧ A179n5 10 tb = nI (kO tb) := by rw [e_A179n5, upA_same, g10]; exact ⟨fun q z => pk_un z, pk_us⟩
      have hQ9 : A179n5 9 = AR 9 := by rw [e_A179n5, upA_ne (by decide)]; exact g9
      have hU9 : ∀ s, s < 64 → A179n5 30 s = qI (kU tb s) := fun s hs => by rw [e_A179n5, upA_ne (by decide)]; exact hKU2 s hs
      have hM9 : MadeIs I148n3 A179n5 0 0 := hM4.mv (by rw [e_A179n5, upA_ne (by decide)])
      refine WX.keep (y := 195) [0, 1, 2, 3, 5] (show ([0, 1, 2, 3, 4, 5, 6, 9] : List Nat).Nodup by decide) rfl ?_
      refine WX.s1 rfl rfl ?_
      refine WX.s1 rfl rfl ?_
      refine WX.icmp rfl (fun c_183 => ?_) (fun c_183 => absurd (by decide) c_183)
      clear c_183
      refine WX.s1 rfl rfl ?_
      refine WX.s1 rfl rfl ?_
      refine WX.icmp rfl (fun c_196 => ?_) (fun c_196 => absurd (by decide) c_196)
      clear c_196
      refine WX.s1 rfl rfl ?_
      refine WX.s1 (L' := [(0, .ref m), (1, .int (nI tb)), (2, .int (nI (64 * tb))), (3, .int (nI (ss.getD 0 0))), (5, .int 0), (10, .int 0)]) rfl rfl ?_
      have lp : ∀ (t k : Nat) (hL : Nat → aE) (AL : Nat → Nat → Int32), k + t = 64 → Fr h hL (inM m) → MAt hL m I148n3 AL LN → FaS AR AL (fun b => b = 9 ∨ b = 10 ∨ b = 24 ∨ (26 ≤ b ∧ b ≤ 33)) → (∀ q, q ≠ tb → AL 10 q = AR 10 q) → AL 10 tb = nI (tKn tb).1 → (∀ q, q < 64 * tb ∨ 64 * tb + 64 ≤ q → AL 9 q = AR 9 q) → (∀ i, i < k → AL 9 (64 * tb + i) = qI (kU tb i)) → (∀ s, s < 64 → AL 30 s = qI (kU tb s)) → MadeIs I148n3 AL 0 0 → WX (lk tX12_sayTable) (mM (d + 5)) Ψ 231 [(0, .ref m), (1, .int (nI tb)), (2, .int (nI (64 * tb))), (3, .int (nI (ss.getD 0 0))), (5, .int 0), (10, .int (nI k))] [] (n, s, hL) := by
        clear M_h179n5 FR_h179n5
        intro t
        induction t with
        | zero =>
          intro k hL AL hk FR_hL M_hL FA_AL hq10 ht10 hq9 hk9 hU30 hML
          obtain rfl : k = 64 := by omega
          refine WX.s1 rfl rfl ?_
          refine WX.s1 rfl rfl ?_
          refine WX.icmp rfl (fun c_235 => ?_) (fun c_235 => absurd ((nI_leI (a := 64) (b := 64) (by omega) (by omega)).mpr (by omega)) c_235)
          clear c_235
          refine WX.s1 rfl rfl ?_
          exact WX.ret1 rfl (kk hL I148n3 AL FR_hL M_hL FI_I148n3 FA_AL hq10 hq9 ⟨ht10, hk9⟩ hML)
        | succ t ih =>
          intro k hL AL hk FR_hL M_hL FA_AL hq10 ht10 hq9 hk9 hU30 hML
          refine WX.s1 rfl rfl ?_
          refine WX.s1 rfl rfl ?_
          refine WX.icmp rfl (fun c_235 => absurd c_235 (fun zz_ => absurd ((nI_leI (a := 64) (b := k) (by omega) (by omega)).mp zz_) (Nat.not_le.mpr (by omega)))) (fun c_235 => ?_)
          clear c_235
          refine WX.s1 rfl rfl ?_
          refine WX.s1 rfl rfl ?_
          refine WX.icmp rfl (fun c_241 => absurd c_241 (by decide)) (fun c_241 => ?_)
          clear c_241
          refine WX.s1 rfl rfl ?_
          refine WX.mget rfl hm M_hL rfl ?_
          refine WX.s1 rfl rfl ?_
          refine WX.s1 rfl rfl ?_
          refine WX.s1 (S' := [.int ((nI (64 * tb)) + (nI k)), .ref (m + 9)]) rfl rfl ?_
          rw [show ((nI (64 * tb)) + (nI k)) = nI (64 * tb + k) from nI_add (64 * tb) k]
          refine WX.s1 rfl rfl ?_
          refine WX.s1 rfl rfl ?_
          refine WX.icmp rfl (fun c_255 => ?_) (fun c_255 => absurd (by decide) c_255)
          clear c_255
          refine WX.s1 rfl rfl ?_
          refine WX.mget rfl hm M_hL rfl ?_
          refine WX.s1 rfl rfl ?_
          refine WX.mald (c := 30) rfl hm M_hL (by decide) (by decide) (by decide) (by decide) (vp_in_nI (N := 64) (by omega) (by decide)) ?_
          rw [nI_clamp (by omega), hU30 k (by omega)]
          refine WX.mast (c := 9) rfl hm M_hL (by decide) (by decide) (by decide) (by decide) (vp_in_nI (N := 192) (by omega) (by decide)) (fun h279n6 A279n6 e_A279n6 M_h279n6 frh279n6 => ?_)
          try dsimp only at e_A279n6
          have FR_h279n6 := FR_hL.ztr frh279n6
          clear M_hL FR_hL frh279n6
          refine WX.s1 (L' := [(0, .ref m), (1, .int (nI tb)), (2, .int (nI (64 * tb))), (3, .int (nI (ss.getD 0 0))), (5, .int 0), (10, .int ((nI k) + 1))]) rfl rfl ?_
          rw [show ((nI k) + 1) = nI (k + 1) from nI_add k 1]
          refine WX.s1 rfl rfl ?_
          rw [nI_clamp (by omega)] at e_A279n6
          refine ih (k + 1) h279n6 A279n6 (by omega) FR_h279n6 M_h279n6 (FA_AL.ast e_A279n6 (by decide)) (fun q z => by rw [e_A279n6, upA_ne (by decide)]; exact hq10 q z) (by rw [e_A279n6, upA_ne (by decide)]; exact ht10) (fun q z => by rw [e_A279n6, upA_same, pk_un (by omega)]; exact hq9 q z) (fun i hi => ?_) (fun s hs => by rw [e_A279n6, upA_ne (by decide)]; exact hU30 s hs) (hML.mv (by rw [e_A279n6, upA_ne (by decide)]))
          rw [e_A279n6, upA_same]
          by_cases z : i = k
          · rw [z, pk_us]
          · rw [pk_un (by omega)]; exact hk9 i (by omega)
      exact lp 64 0 h179n5 A179n5 (by omega) FR_h179n5 M_h179n5 FA_A179n5 hQ10.1 hQ10.2 (fun q _ => by rw [hQ9]) (fun i hi => absurd hi (Nat.not_lt_zero i)) hU9 hM9
    by_cases hmd : cf.1 = 1
    · rw [hmd] at kk hTb ⊢
      rw [show nI 1 = 1 from rfl]
      show WX _ _ _ 151 [(0, .ref m), (1, .int (nI tb)), (2, .int (nI (64 * tb))), (3, .int (nI (ss.getD 0 0))), (4, .int (nI (cdF ss).2)), (5, .int 1), (6, .int v6), (9, .int (nI (boF ss (gT tb - 4)).1))] [] (n, s, h148n3)
      have FA2_A148n3 := FB_A148n3
      clear FA_A148n3
      have FA_A148n3 := FA2_A148n3
      clear FA2_A148n3
      refine WX.s1 rfl rfl ?_
      refine WX.s1 rfl rfl ?_
      refine WX.icmp rfl (fun c_154 => absurd c_154 (by decide)) (fun c_154 => ?_)
      clear c_154
      refine WX.s1 rfl rfl ?_
      refine WX.s1 rfl rfl ?_
      refine WX.s1 rfl rfl ?_
      refine WX.callC (vs := [.ref m, .int (nI (ss.getD 0 0)), .int (nI 8)]) rfl rfl rfl (Nat.le_of_ble_eq_true rfl) (M_h148n3.rcv hm) ?_
      refine m_putV hm M_h148n3 hM3 (by omega) (by decide) (by decide) (fun h161n7 I161n7 A161n7 fr161n7 M_h161n7 fi161n7 fa161n7 hM4 => ?_)
      have FR_h161n7 := FR_h148n3.ztr fr161n7
      have K_I161n7_31 : I161n7 31 = (nI ss.length) := (fi161n7 31 (by decide)).trans K_I148n3_31
      have FI_I161n7 : Fi I I161n7 (fun f => f = 38) := FI_I148n3.zsub fi161n7 (fun j hj => by first | exact hj | omega)
      have FA_A161n7 : FaS AR A161n7 (fun b => b = 9 ∨ b = 10 ∨ b = 24 ∨ (26 ≤ b ∧ b ≤ 33)) := FA_A148n3.ztr (fa161n7.toS (by omega))
      have g10 : A161n7 10 = AR 10 := (congrFun rfl _ : A161n7 10 = A161n7 10).trans ((fa161n7 10 (by decide)).trans e10)
      have g9 : A161n7 9 = AR 9 := (fa161n7 9 (by decide)).trans e9
      show WX _ _ _ 164 [(0, .ref m), (1, .int (nI tb)), (2, .int (nI (64 * tb))), (3, .int (nI (ss.getD 0 0))), (4, .int (nI (cdF ss).2)), (5, .int 1), (6, .int v6), (9, .int (nI (boF ss (gT tb - 4)).1))] [] (n, s, h161n7)
      refine WX.s1 rfl rfl ?_
      refine WX.if_ rfl (fun c_166 => ?_) (fun c_166 => absurd (by decide) c_166)
      clear c_166
      refine WX.s1 rfl rfl ?_
      refine WX.s1 rfl rfl ?_
      refine WX.icmp rfl (fun c_183 => absurd c_183 (by decide)) (fun c_183 => ?_)
      clear c_183
      refine WX.s1 rfl rfl ?_
      refine WX.mget rfl hm M_h161n7 rfl ?_
      refine WX.s1 rfl rfl ?_
      refine WX.s1 rfl rfl ?_
      refine WX.mast (c := 10) rfl hm M_h161n7 (by decide) (by decide) (by decide) (by decide) (vp_in_nI (N := 3) (by omega) (by decide)) (fun h192n8 A192n8 e_A192n8 M_h192n8 frh192n8 => ?_)
      try dsimp only at e_A192n8
      have FR_h192n8 := FR_h161n7.ztr frh192n8
      clear M_h161n7 FR_h161n7 frh192n8
      rw [nI_clamp (by omega)] at e_A192n8
      have FA_A192n8 : FaS AR A192n8 (fun b => b = 9 ∨ b = 10 ∨ b = 24 ∨ (26 ≤ b ∧ b ≤ 33)) := FA_A161n7.ast e_A192n8 (by decide)
      have hQ10 : (∀ q, q ≠ tb → A192n8 10 q = AR 10 q) ∧ A192n8 10 tb = nI 0 := by rw [e_A192n8, upA_same, g10]; exact ⟨fun q z => pk_un z, pk_us⟩
      have hQ9 : A192n8 9 = AR 9 := by rw [e_A192n8, upA_ne (by decide)]; exact g9
      have hM9 : MadeIs I161n7 A192n8 8 (ss.getD 0 0) := by have h9 := hM4.mv (show A192n8 24 = A161n7 24 by rw [e_A192n8, upA_ne (by decide)]); rw [show 0 + ss.getD 0 0 % 2 ^ 8 * 2 ^ 0 = ss.getD 0 0 by rw [Nat.mod_eq_of_lt (by omega)]; omega] at h9; exact h9
      refine WX.keep (y := 195) [0, 1, 2, 3, 5] (show ([0, 1, 2, 3, 4, 5, 6, 9] : List Nat).Nodup by decide) rfl ?_
      refine WX.s1 rfl rfl ?_
      refine WX.s1 rfl rfl ?_
      refine WX.icmp rfl (fun c_196 => ?_) (fun c_196 => absurd (by decide) c_196)
      clear c_196
      refine WX.s1 rfl rfl ?_
      refine WX.s1 (L' := [(0, .ref m), (1, .int (nI tb)), (2, .int (nI (64 * tb))), (3, .int (nI (ss.getD 0 0))), (5, .int 1), (10, .int 0)]) rfl rfl ?_
      have lp : ∀ (t k : Nat) (hL : Nat → aE) (AL : Nat → Nat → Int32), k + t = 64 → Fr h hL (inM m) → MAt hL m I161n7 AL LN → FaS AR AL (fun b => b = 9 ∨ b = 10 ∨ b = 24 ∨ (26 ≤ b ∧ b ≤ 33)) → (∀ q, q ≠ tb → AL 10 q = AR 10 q) → AL 10 tb = nI ((0, aloU (ss.getD 0 0)) : Tb).1 → (∀ q, q < 64 * tb ∨ 64 * tb + 64 ≤ q → AL 9 q = AR 9 q) → (∀ i, i < k → AL 9 (64 * tb + i) = qI (aloU (ss.getD 0 0) i)) → MadeIs I161n7 AL 8 (ss.getD 0 0) → WX (lk tX12_sayTable) (mM (d + 5)) Ψ 231 [(0, .ref m), (1, .int (nI tb)), (2, .int (nI (64 * tb))), (3, .int (nI (ss.getD 0 0))), (5, .int 1), (10, .int (nI k))] [] (n, s, hL) := by
        clear M_h192n8 FR_h192n8
        intro t
        induction t with
        | zero =>
          intro k hL AL hk FR_hL M_hL FA_AL hq10 ht10 hq9 hk9 hML
          obtain rfl : k = 64 := by omega
          refine WX.s1 rfl rfl ?_
          refine WX.s1 rfl rfl ?_
          refine WX.icmp rfl (fun c_235 => ?_) (fun c_235 => absurd ((nI_leI (a := 64) (b := 64) (by omega) (by omega)).mpr (by omega)) c_235)
          clear c_235
          refine WX.s1 rfl rfl ?_
          exact WX.ret1 rfl (kk hL I161n7 AL FR_hL M_hL FI_I161n7 FA_AL hq10 hq9 ⟨ht10, hk9⟩ hML)
        | succ t ih =>
          intro k hL AL hk FR_hL M_hL FA_AL hq10 ht10 hq9 hk9 hML
          refine WX.s1 rfl rfl ?_
          refine WX.s1 rfl rfl ?_
          refine WX.icmp rfl (fun c_235 => absurd c_235 (fun zz_ => absurd ((nI_leI (a := 64) (b := k) (by omega) (by omega)).mp zz_) (Nat.not_le.mpr (by omega)))) (fun c_235 => ?_)
          clear c_235
          refine WX.s1 rfl rfl ?_
          refine WX.s1 rfl rfl ?_
          refine WX.icmp rfl (fun c_241 => absurd c_241 (by decide)) (fun c_241 => ?_)
          clear c_241
          refine WX.s1 rfl rfl ?_
          refine WX.mget rfl hm M_hL rfl ?_
          refine WX.s1 rfl rfl ?_
          refine WX.s1 rfl rfl ?_
          refine WX.s1 (S' := [.int ((nI (64 * tb)) + (nI k)), .ref (m + 9)]) rfl rfl ?_
          rw [show ((nI (64 * tb)) + (nI k)) = nI (64 * tb + k) from nI_add (64 * tb) k]
          refine WX.s1 rfl rfl ?_
          refine WX.s1 rfl rfl ?_
          refine WX.icmp rfl (fun c_255 => absurd c_255 (by decide)) (fun c_255 => ?_)
          clear c_255
          refine WX.s1 rfl rfl ?_
          refine WX.s1 rfl rfl ?_
          refine WX.icmp rfl (fun c_261 => ?_) (fun c_261 => ?_)
          · skip
            have n_261 : ¬ k = (ss.getD 0 0) := fun zz_ => c_261 ((nI_eq (a := k) (b := ss.getD 0 0) (by omega) (by omega)).mpr zz_)
            refine WX.s1 rfl rfl ?_
            refine WX.s1 rfl rfl ?_
            refine WX.mast (c := 9) rfl hm M_hL (by decide) (by decide) (by decide) (by decide) (vp_in_nI (N := 192) (by omega) (by decide)) (fun h279n9 A279n9 e_A279n9 M_h279n9 frh279n9 => ?_)
            try dsimp only at e_A279n9
            have FR_h279n9 := FR_hL.ztr frh279n9
            clear M_hL FR_hL frh279n9
            refine WX.s1 (L' := [(0, .ref m), (1, .int (nI tb)), (2, .int (nI (64 * tb))), (3, .int (nI (ss.getD 0 0))), (5, .int 1), (10, .int ((nI k) + 1))]) rfl rfl ?_
            rw [show ((nI k) + 1) = nI (k + 1) from nI_add k 1]
            refine WX.s1 rfl rfl ?_
            rw [nI_clamp (by omega)] at e_A279n9
            refine ih (k + 1) h279n9 A279n9 (by omega) FR_h279n9 M_h279n9 (FA_AL.ast e_A279n9 (by decide)) (fun q z => by rw [e_A279n9, upA_ne (by decide)]; exact hq10 q z) (by rw [e_A279n9, upA_ne (by decide)]; exact ht10) (fun q z => by rw [e_A279n9, upA_same, pk_un (by omega)]; exact hq9 q z) (fun i hi => ?_) (hML.mv (by rw [e_A279n9, upA_ne (by decide)]))
            rw [e_A279n9, upA_same]
            by_cases z : i = k
            · rw [z, pk_us, show aloU (ss.getD 0 0) k = 1 from if_neg n_261]; rfl
            · rw [pk_un (by omega)]; exact hk9 i (by omega)
          · skip
            have n_261 : k = (ss.getD 0 0) := (nI_eq (a := k) (b := ss.getD 0 0) (by omega) (by omega)).mp (Classical.not_not.mp c_261)
            refine WX.s1 rfl rfl ?_
            refine WX.s1 rfl rfl ?_
            refine WX.mast (c := 9) rfl hm M_hL (by decide) (by decide) (by decide) (by decide) (vp_in_nI (N := 192) (by omega) (by decide)) (fun h279n10 A279n10 e_A279n10 M_h279n10 frh279n10 => ?_)
            try dsimp only at e_A279n10
            have FR_h279n10 := FR_hL.ztr frh279n10
            clear M_hL FR_hL frh279n10
            refine WX.s1 (L' := [(0, .ref m), (1, .int (nI tb)), (2, .int (nI (64 * tb))), (3, .int (nI (ss.getD 0 0))), (5, .int 1), (10, .int ((nI k) + 1))]) rfl rfl ?_
            rw [show ((nI k) + 1) = nI (k + 1) from nI_add k 1]
            refine WX.s1 rfl rfl ?_
            rw [nI_clamp (by omega)] at e_A279n10
            refine ih (k + 1) h279n10 A279n10 (by omega) FR_h279n10 M_h279n10 (FA_AL.ast e_A279n10 (by decide)) (fun q z => by rw [e_A279n10, upA_ne (by decide)]; exact hq10 q z) (by rw [e_A279n10, upA_ne (by decide)]; exact ht10) (fun q z => by rw [e_A279n10, upA_same, pk_un (by omega)]; exact hq9 q z) (fun i hi => ?_) (hML.mv (by rw [e_A279n10, upA_ne (by decide)]))
            rw [e_A279n10, upA_same]
            by_cases z : i = k
            · rw [z, pk_us, show aloU (ss.getD 0 0) k = 2 from if_pos n_261]; rfl
            · rw [pk_un (by omega)]; exact hk9 i (by omega)
      exact lp 64 0 h192n8 A192n8 (by omega) FR_h192n8 M_h192n8 FA_A192n8 hQ10.1 hQ10.2 (fun q _ => by rw [hQ9]) (fun i hi => absurd hi (Nat.not_lt_zero i)) hM9
    by_cases hmd : cf.1 = 2
    · rw [hmd] at kk hTb ⊢
      rw [show nI 2 = 2 from rfl]
      show WX _ _ _ 151 [(0, .ref m), (1, .int (nI tb)), (2, .int (nI (64 * tb))), (3, .int (nI (ss.getD 0 0))), (4, .int (nI (cdF ss).2)), (5, .int 2), (6, .int v6), (9, .int (nI (boF ss (gT tb - 4)).1))] [] (n, s, h148n3)
      have FA2_A148n3 := FB_A148n3
      clear FA_A148n3
      have FA_A148n3 := FA2_A148n3
      clear FA2_A148n3
      refine WX.s1 rfl rfl ?_
      refine WX.s1 rfl rfl ?_
      refine WX.icmp rfl (fun c_154 => ?_) (fun c_154 => absurd (by decide) c_154)
      clear c_154
      refine WX.s1 rfl rfl ?_
      refine WX.if_ rfl (fun c_166 => ?_) (fun c_166 => absurd (by decide) c_166)
      clear c_166
      refine WX.s1 rfl rfl ?_
      refine WX.s1 rfl rfl ?_
      refine WX.icmp rfl (fun c_183 => ?_) (fun c_183 => absurd (by decide) c_183)
      clear c_183
      refine WX.s1 rfl rfl ?_
      refine WX.s1 rfl rfl ?_
      refine WX.icmp rfl (fun c_196 => absurd c_196 (by decide)) (fun c_196 => ?_)
      clear c_196
      refine WX.s1 rfl rfl ?_
      refine WX.mget rfl hm M_h148n3 rfl ?_
      refine WX.s1 rfl rfl ?_
      refine WX.s1 rfl rfl ?_
      refine WX.mast (c := 10) rfl hm M_h148n3 (by decide) (by decide) (by decide) (by decide) (vp_in_nI (N := 3) (by omega) (by decide)) (fun h206n11 A206n11 e_A206n11 M_h206n11 frh206n11 => ?_)
      try dsimp only at e_A206n11
      have FR_h206n11 := FR_h148n3.ztr frh206n11
      clear M_h148n3 FR_h148n3 frh206n11
      rw [nI_clamp (by omega)] at e_A206n11
      have FA_A206n11 : FaS AR A206n11 (fun b => b = 9 ∨ b = 10 ∨ b = 24 ∨ (26 ≤ b ∧ b ≤ 33)) := FA_A148n3.ast e_A206n11 (by decide)
      have f10 : (∀ q, q ≠ tb → A206n11 10 q = AR 10 q) ∧ A206n11 10 tb = nI (boF ss (gT tb - 4)).1 := by rw [e_A206n11, upA_same, e10]; exact ⟨fun q z => pk_un z, pk_us⟩
      have f9 : A206n11 9 = AR 9 := by rw [e_A206n11, upA_ne (by decide)]; exact e9
      have hM4 := hM3.mv (show A206n11 24 = A148n3 24 by rw [e_A206n11, upA_ne (by decide)])
      have hC4 : CntM A206n11 (cdF ss).1 := fun s hs => by rw [e_A206n11, upA_ne (by decide)]; exact hC3 s hs
      refine WX.s1 rfl rfl ?_
      refine WX.s1 rfl rfl ?_
      refine WX.mgetK (x := (nI ss.length)) rfl hm M_h206n11 rfl K_I148n3_31 ?_
      refine WX.s1 rfl rfl ?_
      have hsum := cd_sum hok.1
      have hnzc := cd_nz hok.1
      rw [← hsum]
      refine WX.callC (vs := [.ref m, .int (nI (sumN (cdF ss).1 64)), .int (nI (boF ss (gT tb - 4)).1)]) rfl rfl rfl (Nat.le_of_ble_eq_true rfl) (M_h206n11.rcv hm) ?_
      refine m_divide hm M_h206n11 hC4 (by omega) (by omega) (by omega) (by omega) (fun h214n12 A214n12 fr214n12 M_h214n12 fa214n12 hU5 => ?_)
      have FR_h214n12 := FR_h206n11.ztr fr214n12
      have FA_A214n12 : FaS AR A214n12 (fun b => b = 9 ∨ b = 10 ∨ b = 24 ∨ (26 ≤ b ∧ b ≤ 33)) := FA_A206n11.ztr (fa214n12.mono (fun x hx => by omega))
      have g10 : A214n12 10 = A206n11 10 := fa214n12 10 (by decide)
      have g9 : A214n12 9 = AR 9 := (fa214n12 9 (by decide)).trans f9
      have hM5 := hM4.mv (fa214n12 24 (by decide))
      show WX _ _ _ 217 [(0, .ref m), (1, .int (nI tb)), (2, .int (nI (64 * tb))), (3, .int (nI (ss.getD 0 0))), (4, .int (nI (cdF ss).2)), (5, .int 2), (6, .int v6), (9, .int (nI (boF ss (gT tb - 4)).1))] [] (n, s, h214n12)
      refine WX.s1 rfl rfl ?_
      refine WX.s1 rfl rfl ?_
      refine WX.mget rfl hm M_h214n12 rfl ?_
      refine WX.s1 rfl rfl ?_
      refine WX.s1 rfl rfl ?_
      refine WX.callC (vs := [.ref m, .ref (m + 30), .int 0, .int (nI (boF ss (gT tb - 4)).1)]) rfl rfl rfl (Nat.le_of_ble_eq_true rfl) (M_h214n12.rcv hm) ?_
      refine m_putShare hm M_h214n12 bo1 (by omega) hU5 (wU_sh hok bo3).1 hM5 (by decide) (fun h225n13 I225n13 A225n13 fr225n13 M_h225n13 fi225n13 fa225n13 hM6 hb6 => ?_)
      have FR_h225n13 := FR_h214n12.ztr fr225n13
      have K_I225n13_31 : I225n13 31 = (nI ss.length) := (fi225n13 31 (by decide)).trans K_I148n3_31
      have FI_I225n13 : Fi I I225n13 (fun f => f = 38) := FI_I148n3.zsub fi225n13 (fun j hj => by first | exact hj | omega)
      have FA_A225n13 : FaS AR A225n13 (fun b => b = 9 ∨ b = 10 ∨ b = 24 ∨ (26 ≤ b ∧ b ≤ 33)) := FA_A214n12.ztr (fa225n13.toS (by omega))
      have k10 : A225n13 10 = A214n12 10 := fa225n13 10 (by decide)
      have k9 : A225n13 9 = AR 9 := (fa225n13 9 (by decide)).trans g9
      have hU6 : ∀ s, s < 64 → A225n13 30 s = qI (wU (cdF ss).1 (boF ss (gT tb - 4)).1 64 s) := fun s hs => by rw [fa225n13 30 (by decide)]; exact hU5 s hs
      show WX _ _ _ 228 [(0, .ref m), (1, .int (nI tb)), (2, .int (nI (64 * tb))), (3, .int (nI (ss.getD 0 0))), (4, .int (nI (cdF ss).2)), (5, .int 2), (6, .int v6), (9, .int (nI (boF ss (gT tb - 4)).1))] [] (n, s, h225n13)
      have hQ10 : (∀ q, q ≠ tb → A225n13 10 q = AR 10 q) ∧ A225n13 10 tb = nI (boF ss (gT tb - 4)).1 := by rw [k10, g10]; exact f10
      have hQ9 : A225n13 9 = AR 9 := k9
      have hU9 := hU6
      have hM9 := hM6
      refine WX.keep (y := 195) [0, 1, 2, 3, 5] (show ([0, 1, 2, 3, 4, 5, 6, 9] : List Nat).Nodup by decide) rfl ?_
      refine WX.s1 rfl rfl ?_
      refine WX.s1 (L' := [(0, .ref m), (1, .int (nI tb)), (2, .int (nI (64 * tb))), (3, .int (nI (ss.getD 0 0))), (5, .int 2), (10, .int 0)]) rfl rfl ?_
      have lp : ∀ (t k : Nat) (hL : Nat → aE) (AL : Nat → Nat → Int32), k + t = 64 → Fr h hL (inM m) → MAt hL m I225n13 AL LN → FaS AR AL (fun b => b = 9 ∨ b = 10 ∨ b = 24 ∨ (26 ≤ b ∧ b ≤ 33)) → (∀ q, q ≠ tb → AL 10 q = AR 10 q) → AL 10 tb = nI (((boF ss (gT tb - 4)).1, wU (cdF ss).1 (boF ss (gT tb - 4)).1 64) : Tb).1 → (∀ q, q < 64 * tb ∨ 64 * tb + 64 ≤ q → AL 9 q = AR 9 q) → (∀ i, i < k → AL 9 (64 * tb + i) = qI (wU (cdF ss).1 (boF ss (gT tb - 4)).1 64 i)) → (∀ s, s < 64 → AL 30 s = qI (wU (cdF ss).1 (boF ss (gT tb - 4)).1 64 s)) → MadeIs I225n13 AL (8 * (((shB (wU (cdF ss).1 (boF ss (gT tb - 4)).1 64) (boF ss (gT tb - 4)).1 (0, 0)).1 + 7) / 8)) (shB (wU (cdF ss).1 (boF ss (gT tb - 4)).1 64) (boF ss (gT tb - 4)).1 (0, 0)).2 → WX (lk tX12_sayTable) (mM (d + 5)) Ψ 231 [(0, .ref m), (1, .int (nI tb)), (2, .int (nI (64 * tb))), (3, .int (nI (ss.getD 0 0))), (5, .int 2), (10, .int (nI k))] [] (n, s, hL) := by
        clear M_h225n13 FR_h225n13
        intro t
        induction t with
        | zero =>
          intro k hL AL hk FR_hL M_hL FA_AL hq10 ht10 hq9 hk9 hU30 hML
          obtain rfl : k = 64 := by omega
          refine WX.s1 rfl rfl ?_
          refine WX.s1 rfl rfl ?_
          refine WX.icmp rfl (fun c_235 => ?_) (fun c_235 => absurd ((nI_leI (a := 64) (b := 64) (by omega) (by omega)).mpr (by omega)) c_235)
          clear c_235
          refine WX.s1 rfl rfl ?_
          exact WX.ret1 rfl (kk hL I225n13 AL FR_hL M_hL FI_I225n13 FA_AL hq10 hq9 ⟨ht10, hk9⟩ hML)
        | succ t ih =>
          intro k hL AL hk FR_hL M_hL FA_AL hq10 ht10 hq9 hk9 hU30 hML
          refine WX.s1 rfl rfl ?_
          refine WX.s1 rfl rfl ?_
          refine WX.icmp rfl (fun c_235 => absurd c_235 (fun zz_ => absurd ((nI_leI (a := 64) (b := k) (by omega) (by omega)).mp zz_) (Nat.not_le.mpr (by omega)))) (fun c_235 => ?_)
          clear c_235
          refine WX.s1 rfl rfl ?_
          refine WX.s1 rfl rfl ?_
          refine WX.icmp rfl (fun c_241 => absurd c_241 (by decide)) (fun c_241 => ?_)
          clear c_241
          refine WX.s1 rfl rfl ?_
          refine WX.mget rfl hm M_hL rfl ?_
          refine WX.s1 rfl rfl ?_
          refine WX.s1 rfl rfl ?_
          refine WX.s1 (S' := [.int ((nI (64 * tb)) + (nI k)), .ref (m + 9)]) rfl rfl ?_
          rw [show ((nI (64 * tb)) + (nI k)) = nI (64 * tb + k) from nI_add (64 * tb) k]
          refine WX.s1 rfl rfl ?_
          refine WX.s1 rfl rfl ?_
          refine WX.icmp rfl (fun c_255 => ?_) (fun c_255 => absurd (by decide) c_255)
          clear c_255
          refine WX.s1 rfl rfl ?_
          refine WX.mget rfl hm M_hL rfl ?_
          refine WX.s1 rfl rfl ?_
          refine WX.mald (c := 30) rfl hm M_hL (by decide) (by decide) (by decide) (by decide) (vp_in_nI (N := 64) (by omega) (by decide)) ?_
          rw [nI_clamp (by omega), hU30 k (by omega)]
          refine WX.mast (c := 9) rfl hm M_hL (by decide) (by decide) (by decide) (by decide) (vp_in_nI (N := 192) (by omega) (by decide)) (fun h279n14 A279n14 e_A279n14 M_h279n14 frh279n14 => ?_)
          try dsimp only at e_A279n14
          have FR_h279n14 := FR_hL.ztr frh279n14
          clear M_hL FR_hL frh279n14
          refine WX.s1 (L' := [(0, .ref m), (1, .int (nI tb)), (2, .int (nI (64 * tb))), (3, .int (nI (ss.getD 0 0))), (5, .int 2), (10, .int ((nI k) + 1))]) rfl rfl ?_
          rw [show ((nI k) + 1) = nI (k + 1) from nI_add k 1]
          refine WX.s1 rfl rfl ?_
          rw [nI_clamp (by omega)] at e_A279n14
          refine ih (k + 1) h279n14 A279n14 (by omega) FR_h279n14 M_h279n14 (FA_AL.ast e_A279n14 (by decide)) (fun q z => by rw [e_A279n14, upA_ne (by decide)]; exact hq10 q z) (by rw [e_A279n14, upA_ne (by decide)]; exact ht10) (fun q z => by rw [e_A279n14, upA_same, pk_un (by omega)]; exact hq9 q z) (fun i hi => ?_) (fun s hs => by rw [e_A279n14, upA_ne (by decide)]; exact hU30 s hs) (hML.mv (by rw [e_A279n14, upA_ne (by decide)]))
          rw [e_A279n14, upA_same]
          by_cases z : i = k
          · rw [z, pk_us]
          · rw [pk_un (by omega)]; exact hk9 i (by omega)
      exact lp 64 0 h225n13 A225n13 (by omega) FR_h225n13 M_h225n13 FA_A225n13 hQ10.1 hQ10.2 (fun q _ => by rw [hQ9]) (fun i hi => absurd hi (Nat.not_lt_zero i)) hU9 hM9
    by_cases hmd : cf.1 = 3
    · rw [hmd] at kk hTb ⊢
      rw [show nI 3 = 3 from rfl]
      show WX _ _ _ 151 [(0, .ref m), (1, .int (nI tb)), (2, .int (nI (64 * tb))), (3, .int (nI (ss.getD 0 0))), (4, .int (nI (cdF ss).2)), (5, .int 3), (6, .int v6), (9, .int (nI (boF ss (gT tb - 4)).1))] [] (n, s, h148n3)
      have FA2_A148n3 := FB_A148n3
      clear FA_A148n3
      have FA_A148n3 := FA2_A148n3
      clear FA2_A148n3
      refine WX.s1 rfl rfl ?_
      refine WX.s1 rfl rfl ?_
      refine WX.icmp rfl (fun c_154 => ?_) (fun c_154 => absurd (by decide) c_154)
      clear c_154
      refine WX.s1 rfl rfl ?_
      refine WX.if_ rfl (fun c_166 => ?_) (fun c_166 => absurd (by decide) c_166)
      clear c_166
      refine WX.s1 rfl rfl ?_
      refine WX.s1 rfl rfl ?_
      refine WX.icmp rfl (fun c_183 => ?_) (fun c_183 => absurd (by decide) c_183)
      clear c_183
      refine WX.s1 rfl rfl ?_
      refine WX.s1 rfl rfl ?_
      refine WX.icmp rfl (fun c_196 => ?_) (fun c_196 => absurd (by decide) c_196)
      clear c_196
      obtain ⟨t, ht⟩ := hcH hmd
      rw [ht] at hR2 kk
      refine WX.keep (y := 195) [0, 1, 2, 3, 5] (show ([0, 1, 2, 3, 4, 5, 6, 9] : List Nat).Nodup by decide) rfl ?_
      refine WX.s1 rfl rfl ?_
      refine WX.s1 (L' := [(0, .ref m), (1, .int (nI tb)), (2, .int (nI (64 * tb))), (3, .int (nI (ss.getD 0 0))), (5, .int 3), (10, .int 0)]) rfl rfl ?_
      refine WX.s1 rfl rfl ?_
      refine WX.s1 rfl rfl ?_
      refine WX.icmp rfl (fun c_235 => absurd c_235 (by decide)) (fun c_235 => ?_)
      refine WX.s1 rfl rfl ?_
      refine WX.s1 rfl rfl ?_
      refine WX.icmp rfl (fun c_241 => ?_) (fun c_241 => absurd (by decide) c_241)
      refine WX.s1 rfl rfl ?_
      exact WX.ret1 rfl (kk h148n3 I148n3 A148n3 FR_h148n3 M_h148n3 FI_I148n3 FA_A148n3 (fun q _ => by rw [e10]) (fun q _ => by rw [e9]) ⟨(congrFun (e10.trans (FA_A2 10 (by decide)).symm) tb).trans hR2.1, fun s q => (congrFun (e9.trans (FA_A2 9 (by decide)).symm) _).trans (hR2.2 s q)⟩ hM3)
    exfalso
    omega
  have t103 : ∀ (h2 : Nat → aE) (I2 : Nat → Int32) (A2 : Nat → Nat → Int32) (c2 w2 : Nat) (m5 v6 : Int32), Fr h h2 (inM m) → MAt h2 m I2 A2 LN → Fi I I2 (fun f => f = 38) → FaS AR A2 (fun b => b = 24 ∨ (26 ≤ b ∧ b ≤ 33)) → MadeIs I2 A2 c2 w2 → StM bB m5 v6 → CntM A2 (cdF ss).1 → WX (lk tX12_sayTable) (mM (d + 5)) Ψ 103 [(0, .ref m), (1, .int (nI tb)), (2, .int (nI (64 * tb))), (3, .int (nI (ss.getD 0 0))), (4, .int (nI (cdF ss).2)), (5, .int m5), (6, .int v6), (8, .int (nI (boF ss (gT tb - 4)).2)), (9, .int (nI (boF ss (gT tb - 4)).1))] [] (n, s, h2) := by
    intro h2 I2 A2 c2 w2 m5 v6 FR_h2 M_h2 FI_I2 FA_A2 hM2 hSt
    have hss2 : SyM A2 tb ss := fun i hi => by rw [FA_A2 21 (by decide)]; exact hss i hi
    have K_I2_31 : I2 31 = nI ss.length := (FI_I2 31 (by decide)).trans K_I_31
    intro hC2
    have ecC2 := ecC.symm
    unfold chC at ecC2
    have hR2 : RefT A2 tb tH := by cases tH with | none => exact (congrFun (FA_A2 10 (by decide)) tb).trans hR | some t => exact ⟨(congrFun (FA_A2 10 (by decide)) tb).trans hR.1, fun s q => (congrFun (FA_A2 9 (by decide)) _).trans (hR.2 s q)⟩
    have t122 : ∀ (m7 v7 : Int32), bC.1 ≤ 3 → bC.2 < 2 ^ 20 → m7 = nI bC.1 → v7 = nI bC.2 → WX (lk tX12_sayTable) (mM (d + 5)) Ψ 122 [(0, .ref m), (1, .int (nI tb)), (2, .int (nI (64 * tb))), (3, .int (nI (ss.getD 0 0))), (4, .int (nI (cdF ss).2)), (5, .int m7), (6, .int v7), (8, .int (nI (boF ss (gT tb - 4)).2)), (9, .int (nI (boF ss (gT tb - 4)).1))] [] (n, s, h2) := by
      intro m7 v7 k3 k20 e7 e8
      subst e7
      subst e8
      refine WX.s1 rfl rfl ?_
      refine WX.s1 rfl rfl ?_
      refine WX.s1 rfl rfl ?_
      refine WX.s1 rfl rfl ?_
      refine WX.callC (vs := [.ref m, .int (nI tb), .int (nI (cdF ss).2), .int (nI (ss.getD 0 0))]) rfl rfl rfl (Nat.le_of_ble_eq_true rfl) (M_h2.rcv hm) ?_
      refine m_asItWas hm M_h2 hH hlT hAl htb hok hss2 hR2 K_I2_31 (fun h3 A3 fr3 M_h3 fa3 => ?_)
      have FR_h3 := FR_h2.ztr fr3
      have FA_A3 : FaS AR A3 (fun b => b = 24 ∨ (26 ≤ b ∧ b ≤ 33)) := FA_A2.ztr (fa3.mono (fun x hx => by omega))
      have hM3 := hM2.mv (fa3 24 (by decide))
      have hC3 : CntM A3 (cdF ss).1 := fun s hs => by rw [fa3 33 (by decide)]; exact hC2 s hs
      cases e9 : tH.bind (fun t => tabC t ss) with
      | none =>
        rw [e9] at hcf
        have ecf : cf = bC := hcf.symm
        show WX _ _ _ 130 [(0, .ref m), (1, .int (nI tb)), (2, .int (nI (64 * tb))), (3, .int (nI (ss.getD 0 0))), (4, .int (nI (cdF ss).2)), (5, .int (nI bC.1)), (6, .int (nI bC.2)), (8, .int (nI (boF ss (gT tb - 4)).2)), (9, .int (nI (boF ss (gT tb - 4)).1))] [.int (-1)] (n, s, h3)
        refine WX.s1 (L' := [(0, .ref m), (1, .int (nI tb)), (2, .int (nI (64 * tb))), (3, .int (nI (ss.getD 0 0))), (4, .int (nI (cdF ss).2)), (5, .int (nI bC.1)), (6, .int (nI bC.2)), (8, .int (-1)), (9, .int (nI (boF ss (gT tb - 4)).1))]) rfl rfl ?_
        refine WX.s1 rfl rfl ?_
        refine WX.if_ rfl (fun c_134 => ?_) (fun c_134 => absurd (by decide) c_134)
        refine WX.keep (y := 195) [0, 1, 2, 3, 4, 5, 6, 9] (show ([0, 1, 2, 3, 4, 5, 6, 8, 9] : List Nat).Nodup by decide) rfl ?_
        rw [ecf] at t147
        exact t147 h3 I2 A3 c2 w2 _ _ FR_h3 M_h3 FI_I2 FA_A3 hM3 rfl hC3
      | some c9 =>
        rw [e9] at hcf
        have ecf : cf = if c9 < bC.2 then (3, c9) else bC := hcf.symm
        have hc9 : c9 ≤ 9 * 2667 := by cases tH with | none => exact absurd e9 (by simp) | some t => exact tabC_lt hok hs hH hlT e9
        show WX _ _ _ 130 [(0, .ref m), (1, .int (nI tb)), (2, .int (nI (64 * tb))), (3, .int (nI (ss.getD 0 0))), (4, .int (nI (cdF ss).2)), (5, .int (nI bC.1)), (6, .int (nI bC.2)), (8, .int (nI (boF ss (gT tb - 4)).2)), (9, .int (nI (boF ss (gT tb - 4)).1))] [.int (nI c9)] (n, s, h3)
        refine WX.s1 (L' := [(0, .ref m), (1, .int (nI tb)), (2, .int (nI (64 * tb))), (3, .int (nI (ss.getD 0 0))), (4, .int (nI (cdF ss).2)), (5, .int (nI bC.1)), (6, .int (nI bC.2)), (8, .int (nI c9)), (9, .int (nI (boF ss (gT tb - 4)).1))]) rfl rfl ?_
        refine WX.s1 rfl rfl ?_
        refine WX.if_ rfl (fun c_134 => absurd c_134 (fun zz_ => absurd ((nI_ltI (a := c9) (b := 0) (by omega) (by omega)).mp zz_) (Nat.not_lt.mpr (by omega)))) (fun c_134 => ?_)
        clear c_134
        refine WX.s1 rfl rfl ?_
        refine WX.s1 rfl rfl ?_
        refine WX.icmp rfl (fun c_141 => ?_) (fun c_141 => ?_)
        · skip
          have n_141 : bC.2 ≤ c9 := (nI_leI (a := bC.2) (b := c9) (by omega) (by omega)).mp c_141
          refine WX.keep (y := 195) [0, 1, 2, 3, 4, 5, 6, 9] (show ([0, 1, 2, 3, 4, 5, 6, 8, 9] : List Nat).Nodup by decide) rfl ?_
          rw [if_neg (by omega)] at ecf
          rw [ecf] at t147
          exact t147 h3 I2 A3 c2 w2 _ _ FR_h3 M_h3 FI_I2 FA_A3 hM3 rfl hC3
        · skip
          have n_141 : c9 < bC.2 := Nat.lt_of_not_le (fun zz_ => c_141 ((nI_leI (a := bC.2) (b := c9) (by omega) (by omega)).mpr zz_))
          refine WX.s1 rfl rfl ?_
          refine WX.s1 (L' := [(0, .ref m), (1, .int (nI tb)), (2, .int (nI (64 * tb))), (3, .int (nI (ss.getD 0 0))), (4, .int (nI (cdF ss).2)), (5, .int 3), (6, .int (nI bC.2)), (8, .int (nI c9)), (9, .int (nI (boF ss (gT tb - 4)).1))]) rfl rfl ?_
          refine WX.keep (y := 195) [0, 1, 2, 3, 4, 5, 6, 9] (show ([0, 1, 2, 3, 4, 5, 6, 8, 9] : List Nat).Nodup by decide) rfl ?_
          rw [if_pos n_141] at ecf
          rw [ecf] at t147
          exact t147 h3 I2 A3 c2 w2 _ _ FR_h3 M_h3 FI_I2 FA_A3 hM3 rfl hC3
    rcases hSt with ⟨z1, z2, rfl⟩ | ⟨z1, z2, rfl, rfl⟩
    · rw [if_pos (show (boF ss (gT tb - 4)).2 < bB.2 by omega)] at ecC2
      refine WX.s1 rfl rfl ?_
      refine WX.if_ rfl (fun c_105 => ?_) (fun c_105 => absurd (by decide) c_105)
      refine WX.s1 rfl rfl ?_
      refine WX.s1 (L' := [(0, .ref m), (1, .int (nI tb)), (2, .int (nI (64 * tb))), (3, .int (nI (ss.getD 0 0))), (4, .int (nI (cdF ss).2)), (5, .int 2), (6, .int v6), (8, .int (nI (boF ss (gT tb - 4)).2)), (9, .int (nI (boF ss (gT tb - 4)).1))]) rfl rfl ?_
      refine WX.s1 rfl rfl ?_
      refine WX.s1 (L' := [(0, .ref m), (1, .int (nI tb)), (2, .int (nI (64 * tb))), (3, .int (nI (ss.getD 0 0))), (4, .int (nI (cdF ss).2)), (5, .int 2), (6, .int (nI (boF ss (gT tb - 4)).2)), (8, .int (nI (boF ss (gT tb - 4)).2)), (9, .int (nI (boF ss (gT tb - 4)).1))]) rfl rfl ?_
      rw [ecC2] at t122
      exact t122 _ _ (by show 2 ≤ 3; decide) bo5 rfl rfl
    · skip
      refine WX.s1 rfl rfl ?_
      refine WX.if_ rfl (fun c_105 => absurd c_105 (fun zz_ => absurd ((nI_ltI (a := bB.1) (b := 0) (by omega) (by omega)).mp zz_) (Nat.not_lt.mpr (by omega)))) (fun c_105 => ?_)
      clear c_105
      refine WX.s1 rfl rfl ?_
      refine WX.s1 rfl rfl ?_
      refine WX.icmp rfl (fun c_112 => ?_) (fun c_112 => ?_)
      · skip
        have n_112 : bB.2 ≤ ((boF ss (gT tb - 4)).2) := (nI_leI (a := bB.2) (b := (boF ss (gT tb - 4)).2) (by omega) (by omega)).mp c_112
        rw [if_neg (by omega)] at ecC2
        rw [ecC2] at t122
        exact t122 _ _ z1 z2 rfl rfl
      · skip
        have n_112 : ((boF ss (gT tb - 4)).2) < bB.2 := Nat.lt_of_not_le (fun zz_ => c_112 ((nI_leI (a := bB.2) (b := (boF ss (gT tb - 4)).2) (by omega) (by omega)).mpr zz_))
        refine WX.s1 rfl rfl ?_
        refine WX.s1 (L' := [(0, .ref m), (1, .int (nI tb)), (2, .int (nI (64 * tb))), (3, .int (nI (ss.getD 0 0))), (4, .int (nI (cdF ss).2)), (5, .int 2), (6, .int (nI bB.2)), (8, .int (nI (boF ss (gT tb - 4)).2)), (9, .int (nI (boF ss (gT tb - 4)).1))]) rfl rfl ?_
        refine WX.s1 rfl rfl ?_
        refine WX.s1 (L' := [(0, .ref m), (1, .int (nI tb)), (2, .int (nI (64 * tb))), (3, .int (nI (ss.getD 0 0))), (4, .int (nI (cdF ss).2)), (5, .int 2), (6, .int (nI (boF ss (gT tb - 4)).2)), (8, .int (nI (boF ss (gT tb - 4)).2)), (9, .int (nI (boF ss (gT tb - 4)).1))]) rfl rfl ?_
        rw [if_pos n_112] at ecC2
        rw [ecC2] at t122
        exact t122 _ _ (by show 2 ≤ 3; decide) bo5 rfl rfl
  have t87 : ∀ (h2 : Nat → aE) (I2 : Nat → Int32) (A2 : Nat → Nat → Int32) (c2 w2 : Nat) (m5 v6 : Int32), Fr h h2 (inM m) → MAt h2 m I2 A2 LN → Fi I I2 (fun f => f = 38) → FaS AR A2 (fun b => b = 24 ∨ (26 ≤ b ∧ b ≤ 33)) → MadeIs I2 A2 c2 w2 → StM bB m5 v6 → WX (lk tX12_sayTable) (mM (d + 5)) Ψ 87 [(0, .ref m), (1, .int (nI tb)), (2, .int (nI (64 * tb))), (3, .int (nI (ss.getD 0 0))), (4, .int (nI (cdF ss).2)), (5, .int m5), (6, .int v6)] [] (n, s, h2) := by
    intro h2 I2 A2 c2 w2 m5 v6 FR_h2 M_h2 FI_I2 FA_A2 hM2 hSt
    have hss2 : SyM A2 tb ss := fun i hi => by rw [FA_A2 21 (by decide)]; exact hss i hi
    have K_I2_31 : I2 31 = nI ss.length := (FI_I2 31 (by decide)).trans K_I_31
    refine WX.s1 rfl rfl ?_
    refine WX.s1 rfl rfl ?_
    refine WX.callC (vs := [.ref m, .int (nI tb)]) rfl rfl rfl (Nat.le_of_ble_eq_true rfl) (M_h2.rcv hm) ?_
    refine m_bestO hm M_h2 htb hok hss2 hM2 K_I2_31 (fun h3 I3 A3 c3 w3 fr3 M_h3 fi3 fa3 hM3 hC3 => ?_)
    have FR_h3 := FR_h2.ztr fr3
    have FI_I3 := FI_I2.ztr fi3
    have FA_A3 : FaS AR A3 (fun b => b = 24 ∨ (26 ≤ b ∧ b ≤ 33)) := FA_A2.ztr fa3
    have hss3 : SyM A3 tb ss := fun i hi => by rw [FA_A3 21 (by decide)]; exact hss i hi
    have K_I3_31 : I3 31 = nI ss.length := (FI_I3 31 (by decide)).trans K_I_31
    show WX _ _ _ 92 [(0, .ref m), (1, .int (nI tb)), (2, .int (nI (64 * tb))), (3, .int (nI (ss.getD 0 0))), (4, .int (nI (cdF ss).2)), (5, .int m5), (6, .int v6)] [.int (nI (boF ss (gT tb - 4)).1)] (n, s, h3)
    refine WX.s1 (L' := [(0, .ref m), (1, .int (nI tb)), (2, .int (nI (64 * tb))), (3, .int (nI (ss.getD 0 0))), (4, .int (nI (cdF ss).2)), (5, .int m5), (6, .int v6), (9, .int (nI (boF ss (gT tb - 4)).1))]) rfl rfl ?_
    refine WX.s1 rfl rfl ?_
    refine WX.s1 rfl rfl ?_
    refine WX.s1 rfl rfl ?_
    refine WX.callC (vs := [.ref m, .int (nI tb), .int (nI (boF ss (gT tb - 4)).1)]) rfl rfl rfl (Nat.le_of_ble_eq_true rfl) (M_h3.rcv hm) ?_
    refine m_shareCost hm M_h3 htb hok hss3 hC3 bo1 (by omega) bo3 hM3 K_I3_31 (fun h4 I4 A4 fr4 M_h4 fi4 fa4 hM4 hb4 hU4 hsc4 => ?_)
    rw [← bo4]
    show WX _ _ _ 101 [(0, .ref m), (1, .int (nI tb)), (2, .int (nI (64 * tb))), (3, .int (nI (ss.getD 0 0))), (4, .int (nI (cdF ss).2)), (5, .int m5), (6, .int v6), (9, .int (nI (boF ss (gT tb - 4)).1))] [.int (nI (boF ss (gT tb - 4)).2)] (n, s, h4)
    refine WX.s1 (L' := [(0, .ref m), (1, .int (nI tb)), (2, .int (nI (64 * tb))), (3, .int (nI (ss.getD 0 0))), (4, .int (nI (cdF ss).2)), (5, .int m5), (6, .int v6), (8, .int (nI (boF ss (gT tb - 4)).2)), (9, .int (nI (boF ss (gT tb - 4)).1))]) rfl rfl ?_
    exact t103 h4 I4 A4 _ _ m5 v6 (FR_h3.ztr fr4) M_h4 (FI_I3.ztr fi4) (FA_A3.ztr (fa4.mono (fun x hx => by omega))) hM4 hSt (fun s hs => by rw [fa4 33 (by decide)]; exact hC3 s hs)
  have t62 : ∀ (h2 : Nat → aE) (I2 : Nat → Int32) (A2 : Nat → Nat → Int32) (c2 w2 : Nat) (m5 v6 : Int32), Fr h h2 (inM m) → MAt h2 m I2 A2 LN → Fi I I2 (fun f => f = 38) → FaS AR A2 (fun b => b = 24 ∨ (26 ≤ b ∧ b ≤ 33)) → MadeIs I2 A2 c2 w2 → StM bA m5 v6 → WX (lk tX12_sayTable) (mM (d + 5)) Ψ 62 [(0, .ref m), (1, .int (nI tb)), (2, .int (nI (64 * tb))), (3, .int (nI (ss.getD 0 0))), (4, .int (nI (cdF ss).2)), (5, .int m5), (6, .int v6)] [] (n, s, h2) := by
    intro h2 I2 A2 c2 w2 m5 v6 FR_h2 M_h2 FI_I2 FA_A2 hM2 hSt
    have hss2 : SyM A2 tb ss := fun i hi => by rw [FA_A2 21 (by decide)]; exact hss i hi
    have K_I2_31 : I2 31 = nI ss.length := (FI_I2 31 (by decide)).trans K_I_31
    have ecB2 := ecB.symm
    unfold chB at ecB2
    refine WX.s1 rfl rfl ?_
    refine WX.s1 rfl rfl ?_
    refine WX.icmp rfl (fun c_65 => ?_) (fun c_65 => ?_)
    · skip
      have n_65 : ¬ ((cdF ss).2) = 1 := fun zz_ => c_65 ((nI_eq (a := (cdF ss).2) (b := 1) (by omega) (by omega)).mpr zz_)
      rw [if_neg (fun q => n_65 q.1)] at ecB2
      rw [ecB2] at t87
      exact t87 h2 I2 A2 c2 w2 _ _ FR_h2 M_h2 FI_I2 FA_A2 hM2 hSt
    · skip
      have n_65 : ((cdF ss).2) = 1 := (nI_eq (a := (cdF ss).2) (b := 1) (by omega) (by omega)).mp (Classical.not_not.mp c_65)
      have hSt2 := hSt
      rcases hSt2 with ⟨z1, z2, rfl⟩ | ⟨z1, z2, rfl, rfl⟩
      · skip
        refine WX.s1 rfl rfl ?_
        refine WX.if_ rfl (fun c_70 => ?_) (fun c_70 => absurd (by decide) c_70)
        refine WX.s1 rfl rfl ?_
        refine WX.s1 (L' := [(0, .ref m), (1, .int (nI tb)), (2, .int (nI (64 * tb))), (3, .int (nI (ss.getD 0 0))), (4, .int (nI (cdF ss).2)), (5, .int 1), (6, .int v6)]) rfl rfl ?_
        refine WX.s1 rfl rfl ?_
        refine WX.s1 (L' := [(0, .ref m), (1, .int (nI tb)), (2, .int (nI (64 * tb))), (3, .int (nI (ss.getD 0 0))), (4, .int (nI (cdF ss).2)), (5, .int 1), (6, .int 8)]) rfl rfl ?_
        rw [if_pos ⟨n_65, by omega⟩] at ecB2
        rw [ecB2] at t87
        exact t87 h2 I2 A2 c2 w2 _ _ FR_h2 M_h2 FI_I2 FA_A2 hM2 (Or.inr ⟨by decide, by decide, rfl, rfl⟩)
      · skip
        refine WX.s1 rfl rfl ?_
        refine WX.if_ rfl (fun c_70 => absurd c_70 (fun zz_ => absurd ((nI_ltI (a := bA.1) (b := 0) (by omega) (by omega)).mp zz_) (Nat.not_lt.mpr (by omega)))) (fun c_70 => ?_)
        clear c_70
        refine WX.s1 rfl rfl ?_
        refine WX.s1 rfl rfl ?_
        refine WX.icmp rfl (fun c_77 => ?_) (fun c_77 => ?_)
        · skip
          have n_77 : bA.2 ≤ 8 := (nI_leI (a := bA.2) (b := 8) (by omega) (by omega)).mp c_77
          rw [if_neg (fun q => by omega)] at ecB2
          rw [ecB2] at t87
          exact t87 h2 I2 A2 c2 w2 _ _ FR_h2 M_h2 FI_I2 FA_A2 hM2 hSt
        · skip
          have n_77 : 8 < bA.2 := Nat.lt_of_not_le (fun zz_ => c_77 ((nI_leI (a := bA.2) (b := 8) (by omega) (by omega)).mpr zz_))
          refine WX.s1 rfl rfl ?_
          refine WX.s1 (L' := [(0, .ref m), (1, .int (nI tb)), (2, .int (nI (64 * tb))), (3, .int (nI (ss.getD 0 0))), (4, .int (nI (cdF ss).2)), (5, .int 1), (6, .int (nI bA.2))]) rfl rfl ?_
          refine WX.s1 rfl rfl ?_
          refine WX.s1 (L' := [(0, .ref m), (1, .int (nI tb)), (2, .int (nI (64 * tb))), (3, .int (nI (ss.getD 0 0))), (4, .int (nI (cdF ss).2)), (5, .int 1), (6, .int 8)]) rfl rfl ?_
          rw [if_pos ⟨n_65, n_77⟩] at ecB2
          rw [ecB2] at t87
          exact t87 h2 I2 A2 c2 w2 _ _ FR_h2 M_h2 FI_I2 FA_A2 hM2 (Or.inr ⟨by decide, by decide, rfl, rfl⟩)
  have hss1 : SyM A31n2 tb ss := fun i hi => by rw [FA_A31n2 21 (by decide)]; exact hss i hi
  refine WX.s1 rfl rfl ?_
  refine WX.s1 rfl rfl ?_
  refine WX.s1 rfl rfl ?_
  refine WX.mget rfl hm M_h31n2 rfl ?_
  refine WX.s1 rfl rfl ?_
  refine WX.s1 rfl rfl ?_
  refine WX.callC (vs := [.ref m, .int (nI tb), .ref (m + 30), .int 0, .int (nI (kO tb))]) rfl rfl rfl (Nat.le_of_ble_eq_true rfl) (M_h31n2.rcv hm) ?_
  refine m_rowCost30 (f := 0) hm M_h31n2 htb (by decide) (Or.inr hkO.1) hkO.2 (fun s hs => by rw [Nat.zero_add]; exact hKU s hs) hKS hok3 hok2 hss1 K_I_31 (fun hall h4 A4 c p fr4 M_h4 fa4 hP hRC hcb => ?_) (fun hex => ?_)
  · skip
    have ha : ∀ s, s ∈ ss → massU ((tKn tb).2 s) ≠ 0 := fun s q => by obtain ⟨i, hi, e⟩ := mem_getD q; rw [← e]; exact hall i hi
    have e1 : bA = (0, c) := by rw [← ecA]; unfold tabC; rw [if_pos ha, show rcF (tKn tb).2 64 (tKn tb).1 ss = c from rcF_is (Or.inr hkO.1) hkO.2 hKS hRC]; rfl
    show WX _ _ _ 48 [(0, .ref m), (1, .int (nI tb)), (2, .int (nI (64 * tb))), (3, .int (nI (ss.getD 0 0))), (4, .int (nI (cdF ss).2)), (5, .int (-1)), (6, .int 0), (7, .int (nI (kO tb)))] [.int (nI c)] (n, s, h4)
    refine WX.s1 (L' := [(0, .ref m), (1, .int (nI tb)), (2, .int (nI (64 * tb))), (3, .int (nI (ss.getD 0 0))), (4, .int (nI (cdF ss).2)), (5, .int (-1)), (6, .int 0), (7, .int (nI (kO tb))), (8, .int (nI c))]) rfl rfl ?_
    refine WX.s1 rfl rfl ?_
    refine WX.if_ rfl (fun c_52 => absurd c_52 (fun zz_ => absurd ((nI_ltI (a := c) (b := 0) (by omega) (by omega)).mp zz_) (Nat.not_lt.mpr (by omega)))) (fun c_52 => ?_)
    clear c_52
    refine WX.s1 rfl rfl ?_
    refine WX.s1 (L' := [(0, .ref m), (1, .int (nI tb)), (2, .int (nI (64 * tb))), (3, .int (nI (ss.getD 0 0))), (4, .int (nI (cdF ss).2)), (5, .int 0), (6, .int 0), (7, .int (nI (kO tb))), (8, .int (nI c))]) rfl rfl ?_
    refine WX.s1 rfl rfl ?_
    refine WX.s1 (L' := [(0, .ref m), (1, .int (nI tb)), (2, .int (nI (64 * tb))), (3, .int (nI (ss.getD 0 0))), (4, .int (nI (cdF ss).2)), (5, .int 0), (6, .int (nI c)), (7, .int (nI (kO tb))), (8, .int (nI c))]) rfl rfl ?_
    refine WX.keep (y := 195) [0, 1, 2, 3, 4, 5, 6] (show ([0, 1, 2, 3, 4, 5, 6, 7, 8] : List Nat).Nodup by decide) rfl ?_
    rw [e1] at t62
    exact t62 h4 I A4 c0 w0 _ _ (FR_h31n2.ztr fr4) M_h4 FI_I (FA_A31n2.ztr (fa4.mono (fun x hx => by omega))) (hM1.mv (fa4 24 (by decide))) (Or.inr ⟨by show 0 ≤ 3; decide, by show c < _; omega, rfl, rfl⟩)
  · skip
    have e1 : bA = (9, 2 ^ 30) := by obtain ⟨i, hi, hz⟩ := hex; rw [← ecA, tabC_none (t := tKn tb) ⟨_, getD_mem hi, hz⟩]; rfl
    show WX _ _ _ 48 [(0, .ref m), (1, .int (nI tb)), (2, .int (nI (64 * tb))), (3, .int (nI (ss.getD 0 0))), (4, .int (nI (cdF ss).2)), (5, .int (-1)), (6, .int 0), (7, .int (nI (kO tb)))] [.int (-1)] (n, s, h31n2)
    refine WX.s1 (L' := [(0, .ref m), (1, .int (nI tb)), (2, .int (nI (64 * tb))), (3, .int (nI (ss.getD 0 0))), (4, .int (nI (cdF ss).2)), (5, .int (-1)), (6, .int 0), (7, .int (nI (kO tb))), (8, .int (-1))]) rfl rfl ?_
    refine WX.s1 rfl rfl ?_
    refine WX.if_ rfl (fun c_52 => ?_) (fun c_52 => absurd (by decide) c_52)
    refine WX.keep (y := 195) [0, 1, 2, 3, 4, 5, 6] (show ([0, 1, 2, 3, 4, 5, 6, 7, 8] : List Nat).Nodup by decide) rfl ?_
    rw [e1] at t62
    exact t62 h31n2 I A31n2 c0 w0 _ _ FR_h31n2 M_h31n2 FI_I FA_A31n2 hM1 (Or.inl ⟨rfl, rfl, rfl⟩)
