/-! the reference: countSymbols, shareCost, bestOrder -/
theorem MadeIs.mv {I : Nat → Int32} {A B : Nat → Nat → Int32} {c w : Nat} (M : MadeIs I A c w) (e : B 24 = A 24) : MadeIs I B c w := by
  unfold MadeIs
  rw [e]
  exact M
noncomputable def shC (ss : List Nat) (o : Nat) : Nat := 8 * (((shB (wU (cdF ss).1 o 64) o (0, 0)).1 + 7) / 8) + rcF (wU (cdF ss).1 o 64) 64 o ss
noncomputable def boF (ss : List Nat) : Nat → Nat × Nat
  | 0 => (0, 0)
  | k + 1 => if 2 ^ (5 + k) < (cdF ss).2 then boF ss k else if (boF ss k).1 = 0 ∨ shC ss (5 + k) < (boF ss k).2 then (5 + k, shC ss (5 + k)) else boF ss k
def SyOk (ss : List Nat) : Prop := (∀ s, s ∈ ss → s < 64) ∧ 1 ≤ ss.length ∧ ss.length ≤ 2667
theorem sy_ok {A : Nat → Nat → Int32} {t : Nat} {ss : List Nat} (h : SyM A t ss) : ∀ s, s ∈ ss → s < 64 := fun s hs => by
  obtain ⟨i, hi, e⟩ := mem_getD hs
  rw [← e]
  exact (h i hi).2
theorem wU_sh {ss : List Nat} {o : Nat} (h : SyOk ss) (hd : (cdF ss).2 ≤ 2 ^ o) : mSum (wU (cdF ss).1 o 64) 64 = 2 ^ o ∧ (∀ s, wU (cdF ss).1 o 64 s = 1 ↔ (cdF ss).1 s = 0) := wU_ok (by decide) (by rw [cd_sum h.1]; exact h.2.1) (by rw [cd_nz h.1]; exact hd)
theorem mass_0 {u : Nat} : massU u = 0 ↔ u = 1 := by
  unfold massU
  by_cases h : u = 0
  · rw [if_pos h]; omega
  · rw [if_neg h]; omega
theorem wU_m {ss : List Nat} {o : Nat} (h : SyOk ss) (hd : (cdF ss).2 ≤ 2 ^ o) : ∀ s, s ∈ ss → s < 64 ∧ massU (wU (cdF ss).1 o 64 s) ≠ 0 := fun s hs => ⟨h.1 s hs, fun z => cd_pos.mpr hs (((wU_sh h hd).2 s).mp (mass_0.mp z))⟩
theorem sy_ne {ss : List Nat} (h : SyOk ss) : ss ≠ [] := fun z => by
  have := h.2.1
  rw [z] at this
  exact absurd this (by decide)
theorem cd_le {N : Nat} {ss : List Nat} (h : ∀ s, s ∈ ss → s < N) : (cdF ss).2 ≤ N := by
  rw [← cd_nz h]
  have : nzC (cdF ss).1 N ≤ sumN (fun _ => 1) N := sumN_le (fun s _ => by split <;> omega)
  have e : ∀ M, sumN (fun _ => 1) M = M := by
    intro M
    induction M with
    | zero => rfl
    | succ M ih => show sumN _ M + 1 = _; rw [ih]
  rw [e] at this
  exact this
theorem nI_nn {a : Nat} (h : a < 2 ^ 31) : ¬ nI a < 0 := fun z => absurd ((nI_ltI (a := a) (b := 0) h (by decide)).mp z) (Nat.not_lt_zero a)
set_option maxRecDepth 20000 in
theorem m_countS {d n s : Nat} {h : Nat → aE} {m : Nat} {I : Nat → Int32} {AR : Nat → Nat → Int32} {LN : Nat → Int64} {tb : Nat} {ss : List Nat} (hm : m + 43 < n) (M_h : MAt h m I AR LN) (htb : tb < 3) (hle : ss.length ≤ 2667) (hss : SyM AR tb ss) (K_I_31 : I 31 = (nI ss.length)) {Ψ : Option Value → aH → Prop} (kk : ∀ h' A', Fr h h' (inM m) → MAt h' m I A' LN → FaS AR A' (fun b => b = 33) → (∀ s, s < 256 → A' 33 s = nI ((cdF ss).1 s)) → Ψ (some (.int (nI (cdF ss).2))) (n, s, h')) : WO (mM (d + 1)) 172 [.ref m, .int (nI tb)] (n, s, h) Ψ := by
  refine WO.of (Nat.le_of_ble_eq_true rfl) ?_
  have FR_h : Fr h h (inM m) := Fr.rf
  have FI_I : Fi I I (fun f => f = 40) := Fi.rf
  have FA_AR : FaS AR AR (fun b => b = 33) := FaS.rf
  show WX (lk tX12_countSymbols) (mM d) Ψ 0 [(0, .ref m), (1, .int (nI tb))] [] (n, s, h)
  refine WX.s1 rfl rfl ?_
  refine WX.s1 (L' := [(0, .ref m), (1, .int (nI tb)), (2, .int 0)]) rfl rfl ?_
  have lp : ∀ (t i : Nat) (hL : Nat → aE) (AL : Nat → Nat → Int32), i + t = 256 → Fr h hL (inM m) → MAt hL m I AL LN → FaS AR AL (fun b => b = 33) → (∀ s, s < i → AL 33 s = 0) → WX (lk tX12_countSymbols) (mM d) Ψ 2 [(0, .ref m), (1, .int (nI tb)), (2, .int (nI i))] [] (n, s, hL) := by
    clear M_h FR_h FA_AR
    intro t
    induction t with
    | zero =>
      intro i hL AL hi FR_hL M_hL FA_AL h0
      obtain rfl : i = 256 := by omega
      refine WX.s1 rfl rfl ?_
      refine WX.s1 rfl rfl ?_
      refine WX.icmp rfl (fun c_6 => ?_) (fun c_6 => absurd ((nI_leI (a := 256) (b := 256) (by omega) (by omega)).mpr (by omega)) c_6)
      clear c_6
      refine WX.s1 rfl rfl ?_
      refine WX.s1 (L' := [(0, .ref m), (1, .int (nI tb)), (2, .int 0)]) rfl rfl ?_
      refine WX.s1 rfl rfl ?_
      refine WX.s1 (L' := [(0, .ref m), (1, .int (nI tb)), (2, .int 0), (3, .int 0)]) rfl rfl ?_
      have lp2 : ∀ (t i : Nat) (hL : Nat → aE) (AL : Nat → Nat → Int32), i + t = ss.length → Fr h hL (inM m) → MAt hL m I AL LN → FaS AR AL (fun b => b = 33) → (∀ s, s < 256 → AL 33 s = nI ((cdF (ss.take i)).1 s)) → WX (lk tX12_countSymbols) (mM d) Ψ 26 [(0, .ref m), (1, .int (nI tb)), (2, .int (nI (cdF (ss.take i)).2)), (3, .int (nI i))] [] (n, s, hL) := by
        clear M_hL FR_hL FA_AL h0
        intro t
        induction t with
        | zero =>
          intro i hL AL hi FR_hL M_hL FA_AL hc
          obtain rfl : i = ss.length := by omega
          rw [List.take_length] at hc ⊢
          refine WX.s1 rfl rfl ?_
          refine WX.s1 rfl rfl ?_
          refine WX.mgetK (x := (nI ss.length)) rfl hm M_hL rfl K_I_31 ?_
          refine WX.icmp rfl (fun c_31 => ?_) (fun c_31 => absurd ((nI_leI (a := ss.length) (b := ss.length) (by omega) (by omega)).mpr (by omega)) c_31)
          clear c_31
          refine WX.s1 rfl rfl ?_
          exact WX.ret1 rfl (kk hL AL FR_hL M_hL FA_AL hc)
        | succ t ih2 =>
          intro i hL AL hi FR_hL M_hL FA_AL hc
          obtain ⟨y1, y2⟩ := hss i (by omega)
          have hcd := cd_take (show i < ss.length by omega)
          have hcy := hc (ss.getD i 0) (by omega)
          have hcb : (cdF (ss.take i)).1 (ss.getD i 0) ≤ 2667 := by rw [cd_cnt]; refine Nat.le_trans List.count_le_length ?_; rw [List.length_take]; omega
          refine WX.s1 rfl rfl ?_
          refine WX.s1 rfl rfl ?_
          refine WX.mgetK (x := (nI ss.length)) rfl hm M_hL rfl K_I_31 ?_
          refine WX.icmp rfl (fun c_31 => absurd c_31 (fun zz_ => absurd ((nI_leI (a := ss.length) (b := i) (by omega) (by omega)).mp zz_) (Nat.not_le.mpr (by omega)))) (fun c_31 => ?_)
          clear c_31
          refine WX.s1 rfl rfl ?_
          refine WX.mget rfl hm M_hL rfl ?_
          refine WX.s1 rfl rfl ?_
          refine WX.s1 rfl rfl ?_
          refine WX.s1 (S' := [.int (8001 * (nI tb)), .ref (m + 21)]) rfl rfl ?_
          rw [show (8001 * (nI tb)) = nI (8001 * tb) from (Int32.ofNat_mul 8001 tb).symm]
          refine WX.s1 rfl rfl ?_
          refine WX.s1 (S' := [.int ((nI (8001 * tb)) + (nI i)), .ref (m + 21)]) rfl rfl ?_
          rw [show ((nI (8001 * tb)) + (nI i)) = nI (8001 * tb + i) from nI_add (8001 * tb) i]
          refine WX.mald (c := 21) rfl hm M_hL (by decide) (by decide) (by decide) (by decide) (vp_in_nI (N := 24003) (by omega) (by decide)) ?_
          rw [nI_clamp (by omega), FA_AL 21 (by decide), y1]
          refine WX.s1 (L' := [(0, .ref m), (1, .int (nI tb)), (2, .int (nI (cdF (ss.take i)).2)), (3, .int (nI i)), (4, .int (nI (ss.getD i 0)))]) rfl rfl ?_
          refine WX.s1 rfl rfl ?_
          refine WX.mget rfl hm M_hL rfl ?_
          refine WX.s1 rfl rfl ?_
          refine WX.mald (c := 33) rfl hm M_hL (by decide) (by decide) (by decide) (by decide) (vp_in_nI (N := 256) (by omega) (by decide)) ?_
          rw [nI_clamp (by omega), hcy]
          refine WX.if_ rfl (fun c_55 => ?_) (fun c_55 => ?_)
          · skip
            have n_55 : ¬ ((cdF (ss.take i)).1 (ss.getD i 0)) = 0 := fun zz_ => c_55 ((nI_eq (a := (cdF (ss.take i)).1 (ss.getD i 0)) (b := 0) (by omega) (by omega)).mpr zz_)
            refine WX.s1 rfl rfl ?_
            refine WX.s1 (L' := [(0, .ref m), (1, .int (nI tb)), (2, .int (nI (cdF (ss.take i)).2)), (3, .int (nI i)), (4, .int (nI (ss.getD i 0)))]) rfl rfl ?_
            have ed : (cdF (ss.take (i + 1))).2 = (cdF (ss.take i)).2 := by rw [hcd]; show _ + (if _ then 1 else 0) = _; rw [if_neg n_55]; rfl
            rw [← ed]
            refine WX.s1 rfl rfl ?_
            refine WX.mget rfl hm M_hL rfl ?_
            refine WX.s1 rfl rfl ?_
            refine WX.s1 rfl rfl ?_
            refine WX.mald (c := 33) rfl hm M_hL (by decide) (by decide) (by decide) (by decide) (vp_in_nI (N := 256) (by omega) (by decide)) ?_
            rw [nI_clamp (by omega), hcy]
            refine WX.s1 rfl rfl ?_
            refine WX.s1 (S' := [.int ((nI ((cdF (ss.take i)).1 (ss.getD i 0))) + 1), .int (nI (ss.getD i 0)), .ref (m + 33)]) rfl rfl ?_
            rw [show ((nI ((cdF (ss.take i)).1 (ss.getD i 0))) + 1) = nI ((cdF (ss.take i)).1 (ss.getD i 0) + 1) from nI_add ((cdF (ss.take i)).1 (ss.getD i 0)) 1]
            refine WX.mast (c := 33) rfl hm M_hL (by decide) (by decide) (by decide) (by decide) (vp_in_nI (N := 256) (by omega) (by decide)) (fun h76n1 A76n1 e_A76n1 M_h76n1 frh76n1 => ?_)
            try dsimp only at e_A76n1
            have FR_h76n1 := FR_hL.ztr frh76n1
            clear M_hL FR_hL frh76n1
            refine WX.s1 (L' := [(0, .ref m), (1, .int (nI tb)), (2, .int (nI (cdF (ss.take (i + 1))).2)), (3, .int ((nI i) + 1)), (4, .int (nI (ss.getD i 0)))]) rfl rfl ?_
            rw [show ((nI i) + 1) = nI (i + 1) from nI_add i 1]
            refine WX.s1 rfl rfl ?_
            refine WX.keep (y := 172) [0, 1, 2, 3] (show ([0, 1, 2, 3, 4] : List Nat).Nodup by decide) rfl ?_
            rw [nI_clamp (by omega)] at e_A76n1
            refine ih2 (i + 1) h76n1 A76n1 (by omega) FR_h76n1 M_h76n1 (FA_AL.ast e_A76n1 rfl) (fun q hq => ?_)
            rw [e_A76n1, upA_same, hcd]
            show _ = nI (updN _ _ _ q)
            by_cases z : q = ss.getD i 0
            · rw [z, pk_us, updN_s]
            · rw [pk_un z, updN_n z]; exact hc q hq
          · skip
            have n_55 : ((cdF (ss.take i)).1 (ss.getD i 0)) = 0 := (nI_eq (a := (cdF (ss.take i)).1 (ss.getD i 0)) (b := 0) (by omega) (by omega)).mp (Classical.not_not.mp c_55)
            refine WX.s1 rfl rfl ?_
            refine WX.s1 rfl rfl ?_
            refine WX.s1 (S' := [.int ((nI (cdF (ss.take i)).2) + 1)]) rfl rfl ?_
            rw [show ((nI (cdF (ss.take i)).2) + 1) = nI ((cdF (ss.take i)).2 + 1) from nI_add ((cdF (ss.take i)).2) 1]
            refine WX.s1 rfl rfl ?_
            refine WX.s1 (L' := [(0, .ref m), (1, .int (nI tb)), (2, .int (nI ((cdF (ss.take i)).2 + 1))), (3, .int (nI i)), (4, .int (nI (ss.getD i 0)))]) rfl rfl ?_
            have ed : (cdF (ss.take (i + 1))).2 = (cdF (ss.take i)).2 + 1 := by rw [hcd]; show _ + (if _ then 1 else 0) = _; rw [if_pos n_55]
            rw [← ed]
            refine WX.s1 rfl rfl ?_
            refine WX.mget rfl hm M_hL rfl ?_
            refine WX.s1 rfl rfl ?_
            refine WX.s1 rfl rfl ?_
            refine WX.mald (c := 33) rfl hm M_hL (by decide) (by decide) (by decide) (by decide) (vp_in_nI (N := 256) (by omega) (by decide)) ?_
            rw [nI_clamp (by omega), hcy]
            refine WX.s1 rfl rfl ?_
            refine WX.s1 (S' := [.int ((nI ((cdF (ss.take i)).1 (ss.getD i 0))) + 1), .int (nI (ss.getD i 0)), .ref (m + 33)]) rfl rfl ?_
            rw [show ((nI ((cdF (ss.take i)).1 (ss.getD i 0))) + 1) = nI ((cdF (ss.take i)).1 (ss.getD i 0) + 1) from nI_add ((cdF (ss.take i)).1 (ss.getD i 0)) 1]
            refine WX.mast (c := 33) rfl hm M_hL (by decide) (by decide) (by decide) (by decide) (vp_in_nI (N := 256) (by omega) (by decide)) (fun h76n2 A76n2 e_A76n2 M_h76n2 frh76n2 => ?_)
            try dsimp only at e_A76n2
            have FR_h76n2 := FR_hL.ztr frh76n2
            clear M_hL FR_hL frh76n2
            refine WX.s1 (L' := [(0, .ref m), (1, .int (nI tb)), (2, .int (nI (cdF (ss.take (i + 1))).2)), (3, .int ((nI i) + 1)), (4, .int (nI (ss.getD i 0)))]) rfl rfl ?_
            rw [show ((nI i) + 1) = nI (i + 1) from nI_add i 1]
            refine WX.s1 rfl rfl ?_
            refine WX.keep (y := 172) [0, 1, 2, 3] (show ([0, 1, 2, 3, 4] : List Nat).Nodup by decide) rfl ?_
            rw [nI_clamp (by omega)] at e_A76n2
            refine ih2 (i + 1) h76n2 A76n2 (by omega) FR_h76n2 M_h76n2 (FA_AL.ast e_A76n2 rfl) (fun q hq => ?_)
            rw [e_A76n2, upA_same, hcd]
            show _ = nI (updN _ _ _ q)
            by_cases z : q = ss.getD i 0
            · rw [z, pk_us, updN_s]
            · rw [pk_un z, updN_n z]; exact hc q hq
      exact lp2 ss.length 0 hL AL (by omega) FR_hL M_hL FA_AL (fun s hs => h0 s hs)
    | succ t ih =>
      intro i hL AL hi FR_hL M_hL FA_AL h0
      refine WX.s1 rfl rfl ?_
      refine WX.s1 rfl rfl ?_
      refine WX.icmp rfl (fun c_6 => absurd c_6 (fun zz_ => absurd ((nI_leI (a := 256) (b := i) (by omega) (by omega)).mp zz_) (Nat.not_le.mpr (by omega)))) (fun c_6 => ?_)
      clear c_6
      refine WX.s1 rfl rfl ?_
      refine WX.mget rfl hm M_hL rfl ?_
      refine WX.s1 rfl rfl ?_
      refine WX.s1 rfl rfl ?_
      refine WX.mast (c := 33) rfl hm M_hL (by decide) (by decide) (by decide) (by decide) (vp_in_nI (N := 256) (by omega) (by decide)) (fun h15n3 A15n3 e_A15n3 M_h15n3 frh15n3 => ?_)
      try dsimp only at e_A15n3
      have FR_h15n3 := FR_hL.ztr frh15n3
      clear M_hL FR_hL frh15n3
      refine WX.s1 (L' := [(0, .ref m), (1, .int (nI tb)), (2, .int ((nI i) + 1))]) rfl rfl ?_
      rw [show ((nI i) + 1) = nI (i + 1) from nI_add i 1]
      refine WX.s1 rfl rfl ?_
      rw [nI_clamp (by omega)] at e_A15n3
      refine ih (i + 1) h15n3 A15n3 (by omega) FR_h15n3 M_h15n3 (FA_AL.ast e_A15n3 rfl) (fun q hq => ?_)
      rw [e_A15n3, upA_same]
      by_cases z : q = i
      · rw [z, pk_us]
      · rw [pk_un z]; exact h0 q (by omega)
  exact lp 256 0 h AR (by omega) FR_h M_h FA_AR (fun q hq => absurd hq (Nat.not_lt_zero q))
set_option maxRecDepth 20000 in
theorem m_shareCost {d n s : Nat} {h : Nat → aE} {m : Nat} {I : Nat → Int32} {AR : Nat → Nat → Int32} {LN : Nat → Int64} {tb o c0 w0 : Nat} {ss : List Nat} (hm : m + 43 < n) (M_h : MAt h m I AR LN) (htb : tb < 3) (hok : SyOk ss) (hss : SyM AR tb ss) (hC : CntM AR (cdF ss).1) (ho5 : 5 ≤ o) (ho : o ≤ 9) (hnz : (cdF ss).2 ≤ 2 ^ o) (hM : MadeIs I AR c0 w0) (K_I_31 : I 31 = (nI ss.length)) {Ψ : Option Value → aH → Prop} (kk : ∀ h' I' A', Fr h h' (inM m) → MAt h' m I' A' LN → Fi I I' (fun f => f = 38) → FaS AR A' (fun b => b = 24 ∨ (26 ≤ b ∧ b ≤ 32)) → MadeIs I' A' (8 * (((shB (wU (cdF ss).1 o 64) o (0, 0)).1 + 7) / 8)) (shB (wU (cdF ss).1 o 64) o (0, 0)).2 → (shB (wU (cdF ss).1 o 64) o (0, 0)).1 ≤ 836 → (∀ s, s < 64 → A' 30 s = qI (wU (cdF ss).1 o 64 s)) → shC ss o < 2 ^ 20 → Ψ (some (.int (nI (shC ss o)))) (n, s, h')) : WO (mM (d + 4)) 173 [.ref m, .int (nI tb), .int (nI o)] (n, s, h) Ψ := by
  refine WO.of (Nat.le_of_ble_eq_true rfl) ?_
  have FR_h : Fr h h (inM m) := Fr.rf
  have FI_I : Fi I I (fun f => f = 38) := Fi.rf
  have FA_AR : FaS AR AR (fun b => b = 24 ∨ (26 ≤ b ∧ b ≤ 32)) := FaS.rf
  obtain ⟨hS, hW⟩ := wU_sh hok hnz
  have hsum := cd_sum hok.1
  have hnzc := cd_nz hok.1
  obtain ⟨hok1, hok2, hok3⟩ := id hok
  show WX (lk tX12_shareCost) (mM (d + 3)) Ψ 0 [(0, .ref m), (1, .int (nI tb)), (2, .int (nI o))] [] (n, s, h)
  refine WX.s1 rfl rfl ?_
  refine WX.s1 rfl rfl ?_
  refine WX.mgetK (x := (nI ss.length)) rfl hm M_h rfl K_I_31 ?_
  refine WX.s1 rfl rfl ?_
  rw [← hsum]
  refine WX.callC (vs := [.ref m, .int (nI (sumN (cdF ss).1 64)), .int (nI o)]) rfl rfl rfl (Nat.le_of_ble_eq_true rfl) (M_h.rcv hm) ?_
  refine m_divide hm M_h hC ho (by omega) (by omega) (by omega) (fun h6n1 A6n1 fr6n1 M_h6n1 fa6n1 hU6n1 => ?_)
  have FR_h6n1 := FR_h.ztr fr6n1
  have FA_A6n1 : FaS AR A6n1 (fun b => b = 24 ∨ (26 ≤ b ∧ b ≤ 32)) := FA_AR.ztr (fa6n1.mono (fun x hx => by omega))
  have hU := hU6n1
  have hM1 : MadeIs I A6n1 c0 w0 := by unfold MadeIs; rw [fa6n1 24 (by decide)]; exact hM
  have hss1 : SyM A6n1 tb ss := fun i hi => by rw [fa6n1 21 (by decide)]; exact hss i hi
  show WX _ _ _ 9 [(0, .ref m), (1, .int (nI tb)), (2, .int (nI o))] [] (n, s, h6n1)
  refine WX.s1 rfl rfl ?_
  refine WX.callC (vs := [.ref m]) rfl rfl rfl (Nat.le_of_ble_eq_true rfl) (M_h6n1.rcv hm) ?_
  refine m_beginV hm M_h6n1 hM1 (fun h10n2 I10n2 A10n2 fr10n2 M_h10n2 fi10n2 fa10n2 hM2 => ?_)
  have FR_h10n2 := FR_h6n1.ztr fr10n2
  have K_I10n2_31 : I10n2 31 = (nI ss.length) := (fi10n2 31 (by decide)).trans K_I_31
  have FI_I10n2 : Fi I I10n2 (fun f => f = 38) := FI_I.zsub fi10n2 (fun j hj => by first | exact hj | omega)
  have FA_A10n2 : FaS AR A10n2 (fun b => b = 24 ∨ (26 ≤ b ∧ b ≤ 32)) := FA_A6n1.ztr (fa10n2.toS (by omega))
  have hU2 : ∀ s, s < 64 → A10n2 30 s = qI (wU (cdF ss).1 o 64 s) := fun s hs => by rw [fa10n2 30 (by decide)]; exact hU s hs
  have hss2 : SyM A10n2 tb ss := fun i hi => by rw [fa10n2 21 (by decide)]; exact hss1 i hi
  show WX _ _ _ 13 [(0, .ref m), (1, .int (nI tb)), (2, .int (nI o))] [] (n, s, h10n2)
  refine WX.s1 rfl rfl ?_
  refine WX.s1 rfl rfl ?_
  refine WX.mget rfl hm M_h10n2 rfl ?_
  refine WX.s1 rfl rfl ?_
  refine WX.s1 rfl rfl ?_
  refine WX.callC (vs := [.ref m, .ref (m + 30), .int 0, .int (nI o)]) rfl rfl rfl (Nat.le_of_ble_eq_true rfl) (M_h10n2.rcv hm) ?_
  refine m_putShare hm M_h10n2 ho5 ho hU2 hS hM2 (by decide) (fun h20n3 I20n3 A20n3 fr20n3 M_h20n3 fi20n3 fa20n3 hM3 hb3 => ?_)
  have FR_h20n3 := FR_h10n2.ztr fr20n3
  have K_I20n3_31 : I20n3 31 = (nI ss.length) := (fi20n3 31 (by decide)).trans K_I10n2_31
  have FI_I20n3 : Fi I I20n3 (fun f => f = 38) := FI_I10n2.zsub fi20n3 (fun j hj => by first | exact hj | omega)
  have FA_A20n3 : FaS AR A20n3 (fun b => b = 24 ∨ (26 ≤ b ∧ b ≤ 32)) := FA_A10n2.ztr (fa20n3.toS (by omega))
  have hU3 : ∀ s, s < 64 → A20n3 30 s = qI (wU (cdF ss).1 o 64 s) := fun s hs => by rw [fa20n3 30 (by decide)]; exact hU2 s hs
  have hss3 : SyM A20n3 tb ss := fun i hi => by rw [fa20n3 21 (by decide)]; exact hss2 i hi
  have K_I20n3_38 : I20n3 38 = _ := hM3.1
  show WX _ _ _ 23 [(0, .ref m), (1, .int (nI tb)), (2, .int (nI o))] [] (n, s, h20n3)
  refine WX.s1 rfl rfl ?_
  refine WX.mgetK (x := (nI (8 * (((shB (wU (cdF ss).1 o 64) o (0, 0)).1 + 7) / 8)))) rfl hm M_h20n3 rfl K_I20n3_38 ?_
  refine WX.s1 rfl rfl ?_
  refine WX.s1 rfl rfl ?_
  refine WX.s1 rfl rfl ?_
  refine WX.mget rfl hm M_h20n3 rfl ?_
  refine WX.s1 rfl rfl ?_
  refine WX.s1 rfl rfl ?_
  refine WX.callC (vs := [.ref m, .int (nI tb), .ref (m + 30), .int 0, .int (nI o)]) rfl rfl rfl (Nat.le_of_ble_eq_true rfl) (M_h20n3.rcv hm) ?_
  refine m_rowCost30 (f := 0) hm M_h20n3 htb (by decide) (Or.inr ho5) ho (fun s hs => by rw [Nat.zero_add]; exact hU3 s hs) hS hok3 hok2 hss3 K_I20n3_31 (fun hall h4 A4 c p fr4 M_h4 fa4 hP hR hcb => ?_) (fun hex => ?_)
  · have hrc := rcF_is (Or.inr ho5) ho hS hR
    refine WX.s1 (S' := [.int (nI (8 * (((shB (wU (cdF ss).1 o 64) o (0, 0)).1 + 7) / 8)) + nI c)]) rfl rfl ?_
    have esh : shC ss o = 8 * (((shB (wU (cdF ss).1 o 64) o (0, 0)).1 + 7) / 8) + c := by unfold shC; rw [hrc]
    rw [show nI (8 * (((shB (wU (cdF ss).1 o 64) o (0, 0)).1 + 7) / 8)) + nI c = nI (shC ss o) from (nI_add _ _).trans (by rw [esh])]
    have hsm := hM3.mv (fa4 24 (by decide))
    exact WX.ret1 rfl (kk h4 I20n3 A4 (FR_h20n3.ztr fr4) M_h4 FI_I20n3 (FA_A20n3.ztr (fa4.mono (fun x hx => by omega))) hsm (by omega) (fun s hs => by rw [fa4 30 (by decide)]; exact hU3 s hs) (by rw [esh]; omega))
  · obtain ⟨i, hi, hz⟩ := hex
    exact absurd hz (wU_m hok hnz _ (getD_mem hi)).2
set_option maxRecDepth 20000 in
theorem m_bestOrder1 {d n s : Nat} {h : Nat → aE} {m : Nat} {I : Nat → Int32} {AR : Nat → Nat → Int32} {LN : Nat → Int64} {c0 w0 : Nat} {ss : List Nat} (hm : m + 43 < n) (M_h : MAt h m I AR LN) (hok : SyOk ss) (hss : SyM AR 1 ss) (hM : MadeIs I AR c0 w0) (K_I_31 : I 31 = (nI ss.length)) {Ψ : Option Value → aH → Prop} (kk : ∀ h' I' A' c w, Fr h h' (inM m) → MAt h' m I' A' LN → Fi I I' (fun f => f = 38) → FaS AR A' (fun b => b = 24 ∨ (26 ≤ b ∧ b ≤ 33)) → MadeIs I' A' c w → CntM A' (cdF ss).1 → 5 ≤ (boF ss 4).1 → (boF ss 4).1 ≤ 8 → (cdF ss).2 ≤ 2 ^ (boF ss 4).1 → (boF ss 4).2 = shC ss (boF ss 4).1 → Ψ (some (.int (nI (boF ss 4).1))) (n, s, h')) : WO (mM (d + 5)) 171 [.ref m, .int 1] (n, s, h) Ψ := by
  refine WO.of (Nat.le_of_ble_eq_true rfl) ?_
  have FR_h : Fr h h (inM m) := Fr.rf
  have FI_I : Fi I I (fun f => f = 38) := Fi.rf
  have FA_AR : FaS AR AR (fun b => b = 24 ∨ (26 ≤ b ∧ b ≤ 33)) := FaS.rf
  have hd64 := cd_le hok.1
  obtain ⟨hok1, hok2, hok3⟩ := id hok
  show WX (lk tX12_bestOrder) (mM (d + 4)) Ψ 0 [(0, .ref m), (1, .int 1)] [] (n, s, h)
  refine WX.s1 rfl rfl ?_
  refine WX.s1 rfl rfl ?_
  refine WX.callC (vs := [.ref m, .int (nI 1)]) rfl rfl rfl (Nat.le_of_ble_eq_true rfl) (M_h.rcv hm) ?_
  refine m_countS hm M_h (by decide) hok.2.2 hss K_I_31 (fun h2n1 A2n1 fr2n1 M_h2n1 fa2n1 hC0 => ?_)
  have FR_h2n1 := FR_h.ztr fr2n1
  have FA_A2n1 : FaS AR A2n1 (fun b => b = 24 ∨ (26 ≤ b ∧ b ≤ 33)) := FA_AR.ztr (fa2n1.mono (fun x hx => by omega))
  have hC : CntM A2n1 (cdF ss).1 := fun s hs => hC0 s (by omega)
  have hM1 : MadeIs I A2n1 c0 w0 := by unfold MadeIs; rw [fa2n1 24 (by decide)]; exact hM
  have hss1 : SyM A2n1 1 ss := fun i hi => by rw [fa2n1 21 (by decide)]; exact hss i hi
  show WX _ _ _ 5 [(0, .ref m), (1, .int 1)] [.int (nI (cdF ss).2)] (n, s, h2n1)
  refine WX.s1 (L' := [(0, .ref m), (1, .int 1), (2, .int (nI (cdF ss).2))]) rfl rfl ?_
  refine WX.s1 rfl rfl ?_
  refine WX.s1 (L' := [(0, .ref m), (1, .int 1), (2, .int (nI (cdF ss).2)), (3, .int (-1))]) rfl rfl ?_
  refine WX.s1 rfl rfl ?_
  refine WX.s1 (L' := [(0, .ref m), (1, .int 1), (2, .int (nI (cdF ss).2)), (3, .int (-1)), (4, .int 0)]) rfl rfl ?_
  refine WX.s1 rfl rfl ?_
  refine WX.s1 (L' := [(0, .ref m), (1, .int 1), (2, .int (nI (cdF ss).2)), (3, .int (-1)), (4, .int 0), (5, .int 5)]) rfl rfl ?_
  have lp : ∀ (t k : Nat) (hL : Nat → aE) (IL : Nat → Int32) (AL : Nat → Nat → Int32) (c w : Nat), k + t = 4 → ((boF ss k).1 = 0 ∨ (5 ≤ (boF ss k).1 ∧ (boF ss k).1 < 5 + k ∧ (cdF ss).2 ≤ 2 ^ (boF ss k).1 ∧ (boF ss k).2 = shC ss (boF ss k).1)) ∧ (2 ≤ k → (boF ss k).1 ≠ 0) ∧ (boF ss k).2 < 2 ^ 20 → Fr h hL (inM m) → MAt hL m IL AL LN → Fi I IL (fun f => f = 38) → FaS AR AL (fun b => b = 24 ∨ (26 ≤ b ∧ b ≤ 33)) → MadeIs IL AL c w → CntM AL (cdF ss).1 → SyM AL 1 ss → IL 31 = nI ss.length → WX (lk tX12_bestOrder) (mM (d + 4)) Ψ 14 [(0, .ref m), (1, .int 1), (2, .int (nI (cdF ss).2)), (3, .int (if (boF ss k).1 = 0 then -1 else nI (boF ss k).1)), (4, .int (nI (boF ss k).2)), (5, .int (nI (5 + k)))] [] (n, s, hL) := by
    clear M_h FR_h FA_AR FI_I M_h2n1 FR_h2n1 FA_A2n1 hC0 hC hM1 hss1 hss hM fa2n1 fr2n1 K_I_31
    intro t
    induction t with
    | zero =>
      intro k hL IL AL c w hk hI FR_hL M_hL FI_IL FA_AL hML hCL hsL K_IL_31
      obtain ⟨hi1, hi2, hi3⟩ := hI
      obtain rfl : k = 4 := by omega
      have hb0 := hi2 (by decide)
      have hib : 5 ≤ (boF ss 4).1 ∧ (boF ss 4).1 < 5 + 4 ∧ (cdF ss).2 ≤ 2 ^ (boF ss 4).1 ∧ (boF ss 4).2 = shC ss (boF ss 4).1 := by rcases hi1 with z | z; exact absurd z hb0; exact z
      rw [if_neg hb0]
      rw [show nI (5 + 4) = 9 from rfl]
      refine WX.s1 rfl rfl ?_
      refine WX.s1 rfl rfl ?_
      refine WX.s1 rfl rfl ?_
      refine WX.icmp rfl (fun c_18 => absurd c_18 (by decide)) (fun c_18 => ?_)
      clear c_18
      refine WX.s1 rfl rfl ?_
      refine WX.s1 rfl rfl ?_
      refine WX.icmp rfl (fun c_28 => ?_) (fun c_28 => absurd (by decide) c_28)
      refine WX.s1 rfl rfl ?_
      refine WX.s1 rfl rfl ?_
      refine WX.s1 rfl rfl ?_
      refine WX.callC (vs := [.ref m, .int (nI 1), .int (nI (boF ss 4).1)]) rfl rfl rfl (Nat.le_of_ble_eq_true rfl) (M_hL.rcv hm) ?_
      refine m_shareCost hm M_hL (by decide) hok hsL hCL hib.1 (by omega) hib.2.2.1 hML K_IL_31 (fun h2 I2 A2 fr2 M_h2 fi2 fa2 hM2 hb2 hU2 hsc2 => ?_)
      refine WX.s1 rfl rfl ?_
      refine WX.s1 rfl rfl ?_
      exact WX.ret1 rfl (kk h2 I2 A2 _ _ (FR_hL.ztr fr2) M_h2 (FI_IL.ztr fi2) (FA_AL.ztr (fa2.mono (fun x hx => by omega))) hM2 (fun s hs => by rw [fa2 33 (by decide)]; exact hCL s hs) hib.1 (by omega) hib.2.2.1 hib.2.2.2)
    | succ t ih =>
      intro k hL IL AL c w hk hI FR_hL M_hL FI_IL FA_AL hML hCL hsL K_IL_31
      obtain ⟨hi1, hi2, hi3⟩ := hI
      have hbk : boF ss (k + 1) = if 2 ^ (5 + k) < (cdF ss).2 then boF ss k else if (boF ss k).1 = 0 ∨ shC ss (5 + k) < (boF ss k).2 then (5 + k, shC ss (5 + k)) else boF ss k := rfl
      have hp6 : 1 ≤ k → 64 ≤ 2 ^ (5 + k) := fun q => Nat.le_trans (show 64 ≤ 2 ^ 6 by decide) (Nat.pow_le_pow_right (by decide) (by omega))
      have hpb : 2 ^ (5 + k) ≤ 2 ^ 9 := Nat.pow_le_pow_right (by decide) (by omega)
      refine WX.s1 rfl rfl ?_
      refine WX.s1 rfl rfl ?_
      refine WX.s1 rfl rfl ?_
      refine WX.icmp rfl (fun c_18 => absurd c_18 (by decide)) (fun c_18 => ?_)
      clear c_18
      refine WX.s1 rfl rfl ?_
      refine WX.s1 rfl rfl ?_
      refine WX.icmp rfl (fun c_28 => absurd c_28 (fun zz_ => absurd ((nI_ltI (a := 8) (b := 5 + k) (by omega) (by omega)).mp zz_) (Nat.not_lt.mpr (by omega)))) (fun c_28 => ?_)
      clear c_28
      refine WX.s1 rfl rfl ?_
      refine WX.s1 rfl rfl ?_
      refine WX.s1 rfl rfl ?_
      refine WX.s1 (S' := [.int (1 <<< ((nI (5 + k)) &&& 31)), .int (nI (cdF ss).2)]) rfl rfl ?_
      rw [sh1 (5 + k) (by omega)]
      refine WX.icmp rfl (fun c_36 => ?_) (fun c_36 => ?_)
      · skip
        have n_36 : ((cdF ss).2) ≤ (2 ^ (5 + k)) := (nI_leI (a := (cdF ss).2) (b := 2 ^ (5 + k)) (by omega) (by omega)).mp c_36
        refine WX.s1 rfl rfl ?_
        refine WX.s1 rfl rfl ?_
        refine WX.s1 rfl rfl ?_
        refine WX.callC (vs := [.ref m, .int (nI 1), .int (nI (5 + k))]) rfl rfl rfl (Nat.le_of_ble_eq_true rfl) (M_hL.rcv hm) ?_
        refine m_shareCost hm M_hL (by decide) hok hsL hCL (by omega) (by omega) n_36 hML K_IL_31 (fun h46n2 I46n2 A46n2 fr46n2 M_h46n2 fi46n2 fa46n2 hM2 hb2 hU2 hsc => ?_)
        have FR_h46n2 := FR_hL.ztr fr46n2
        have K_I46n2_31 : I46n2 31 = (nI ss.length) := (fi46n2 31 (by decide)).trans K_IL_31
        have FI_I46n2 : Fi I I46n2 (fun f => f = 38) := FI_IL.zsub fi46n2 (fun j hj => by first | exact hj | omega)
        have FA_A46n2 : FaS AR A46n2 (fun b => b = 24 ∨ (26 ≤ b ∧ b ≤ 33)) := FA_AL.ztr (fa46n2.mono (fun x hx => by omega))
        have hC2 : CntM A46n2 (cdF ss).1 := fun s hs => by rw [fa46n2 33 (by decide)]; exact hCL s hs
        have hs2 : SyM A46n2 1 ss := fun i hi => by rw [fa46n2 21 (by decide)]; exact hsL i hi
        show WX _ _ _ 49 [(0, .ref m), (1, .int 1), (2, .int (nI (cdF ss).2)), (3, .int (if (boF ss k).1 = 0 then -1 else nI (boF ss k).1)), (4, .int (nI (boF ss k).2)), (5, .int (nI (5 + k)))] [.int (nI (shC ss (5 + k)))] (n, s, h46n2)
        refine WX.s1 (L' := [(0, .ref m), (1, .int 1), (2, .int (nI (cdF ss).2)), (3, .int (if (boF ss k).1 = 0 then -1 else nI (boF ss k).1)), (4, .int (nI (boF ss k).2)), (5, .int (nI (5 + k))), (6, .int (nI (shC ss (5 + k))))]) rfl rfl ?_
        by_cases hz : (boF ss k).1 = 0
        · rw [if_pos hz]
          refine WX.s1 rfl rfl ?_
          refine WX.if_ rfl (fun c_52 => ?_) (fun c_52 => absurd (by decide) c_52)
          refine WX.s1 rfl rfl ?_
          refine WX.s1 (L' := [(0, .ref m), (1, .int 1), (2, .int (nI (cdF ss).2)), (3, .int (nI (5 + k))), (4, .int (nI (boF ss k).2)), (5, .int (nI (5 + k))), (6, .int (nI (shC ss (5 + k))))]) rfl rfl ?_
          refine WX.s1 rfl rfl ?_
          refine WX.s1 (L' := [(0, .ref m), (1, .int 1), (2, .int (nI (cdF ss).2)), (3, .int (nI (5 + k))), (4, .int (nI (shC ss (5 + k)))), (5, .int (nI (5 + k))), (6, .int (nI (shC ss (5 + k))))]) rfl rfl ?_
          refine WX.s1 (L' := [(0, .ref m), (1, .int 1), (2, .int (nI (cdF ss).2)), (3, .int (nI (5 + k))), (4, .int (nI (shC ss (5 + k)))), (5, .int ((nI (5 + k)) + 1)), (6, .int (nI (shC ss (5 + k))))]) rfl rfl ?_
          rw [show ((nI (5 + k)) + 1) = nI (5 + k + 1) from nI_add (5 + k) 1]
          refine WX.s1 rfl rfl ?_
          refine WX.keep (y := 171) [0, 1, 2, 3, 4, 5] (show ([0, 1, 2, 3, 4, 5, 6] : List Nat).Nodup by decide) rfl ?_
          rw [if_neg (by omega), if_pos (Or.inl hz)] at hbk
          have h9 := ih (k + 1) h46n2 I46n2 A46n2 _ _ (by omega) (by rw [hbk]; exact ⟨Or.inr ⟨by omega, by omega, by omega, rfl⟩, fun _ => by omega, hsc⟩) FR_h46n2 M_h46n2 FI_I46n2 FA_A46n2 hM2 hC2 hs2 K_I46n2_31
          rw [hbk, if_neg (show ¬ 5 + k = 0 by omega)] at h9
          exact h9
        · rw [if_neg hz]
          refine WX.s1 rfl rfl ?_
          refine WX.if_ rfl (fun c_52 => absurd c_52 (nI_nn (by rcases hi1 with z | z <;> omega))) (fun c_52 => ?_)
          refine WX.s1 rfl rfl ?_
          refine WX.s1 rfl rfl ?_
          refine WX.icmp rfl (fun c_59 => ?_) (fun c_59 => ?_)
          · skip
            have n_59 : ((boF ss k).2) ≤ (shC ss (5 + k)) := (nI_leI (a := (boF ss k).2) (b := shC ss (5 + k)) (by omega) (by omega)).mp c_59
            refine WX.s1 (L' := [(0, .ref m), (1, .int 1), (2, .int (nI (cdF ss).2)), (3, .int (nI (boF ss k).1)), (4, .int (nI (boF ss k).2)), (5, .int ((nI (5 + k)) + 1)), (6, .int (nI (shC ss (5 + k))))]) rfl rfl ?_
            rw [show ((nI (5 + k)) + 1) = nI (5 + k + 1) from nI_add (5 + k) 1]
            refine WX.s1 rfl rfl ?_
            refine WX.keep (y := 171) [0, 1, 2, 3, 4, 5] (show ([0, 1, 2, 3, 4, 5, 6] : List Nat).Nodup by decide) rfl ?_
            rw [if_neg (by omega), if_neg (by omega)] at hbk
            have h9 := ih (k + 1) h46n2 I46n2 A46n2 _ _ (by omega) (by rw [hbk]; exact ⟨by rcases hi1 with z | z; exact Or.inl z; exact Or.inr ⟨z.1, by omega, z.2.2⟩, fun _ => hz, hi3⟩) FR_h46n2 M_h46n2 FI_I46n2 FA_A46n2 hM2 hC2 hs2 K_I46n2_31
            rw [hbk, if_neg hz] at h9
            exact h9
          · skip
            have n_59 : (shC ss (5 + k)) < ((boF ss k).2) := Nat.lt_of_not_le (fun zz_ => c_59 ((nI_leI (a := (boF ss k).2) (b := shC ss (5 + k)) (by omega) (by omega)).mpr zz_))
            refine WX.s1 rfl rfl ?_
            refine WX.s1 (L' := [(0, .ref m), (1, .int 1), (2, .int (nI (cdF ss).2)), (3, .int (nI (5 + k))), (4, .int (nI (boF ss k).2)), (5, .int (nI (5 + k))), (6, .int (nI (shC ss (5 + k))))]) rfl rfl ?_
            refine WX.s1 rfl rfl ?_
            refine WX.s1 (L' := [(0, .ref m), (1, .int 1), (2, .int (nI (cdF ss).2)), (3, .int (nI (5 + k))), (4, .int (nI (shC ss (5 + k)))), (5, .int (nI (5 + k))), (6, .int (nI (shC ss (5 + k))))]) rfl rfl ?_
            refine WX.s1 (L' := [(0, .ref m), (1, .int 1), (2, .int (nI (cdF ss).2)), (3, .int (nI (5 + k))), (4, .int (nI (shC ss (5 + k)))), (5, .int ((nI (5 + k)) + 1)), (6, .int (nI (shC ss (5 + k))))]) rfl rfl ?_
            rw [show ((nI (5 + k)) + 1) = nI (5 + k + 1) from nI_add (5 + k) 1]
            refine WX.s1 rfl rfl ?_
            refine WX.keep (y := 171) [0, 1, 2, 3, 4, 5] (show ([0, 1, 2, 3, 4, 5, 6] : List Nat).Nodup by decide) rfl ?_
            rw [if_neg (by omega), if_pos (Or.inr n_59)] at hbk
            have h9 := ih (k + 1) h46n2 I46n2 A46n2 _ _ (by omega) (by rw [hbk]; exact ⟨Or.inr ⟨by omega, by omega, by omega, rfl⟩, fun _ => by omega, hsc⟩) FR_h46n2 M_h46n2 FI_I46n2 FA_A46n2 hM2 hC2 hs2 K_I46n2_31
            rw [hbk, if_neg (show ¬ 5 + k = 0 by omega)] at h9
            exact h9
      · skip
        have n_36 : (2 ^ (5 + k)) < ((cdF ss).2) := Nat.lt_of_not_le (fun zz_ => c_36 ((nI_leI (a := (cdF ss).2) (b := 2 ^ (5 + k)) (by omega) (by omega)).mpr zz_))
        refine WX.s1 rfl rfl ?_
        refine WX.s1 (L' := [(0, .ref m), (1, .int 1), (2, .int (nI (cdF ss).2)), (3, .int (if (boF ss k).1 = 0 then -1 else nI (boF ss k).1)), (4, .int (nI (boF ss k).2)), (5, .int ((nI (5 + k)) + 1))]) rfl rfl ?_
        rw [show ((nI (5 + k)) + 1) = nI (5 + k + 1) from nI_add (5 + k) 1]
        refine WX.s1 rfl rfl ?_
        rw [if_pos n_36] at hbk
        have h9 := ih (k + 1) hL IL AL c w (by omega) (by rw [hbk]; exact ⟨by rcases hi1 with z | z; exact Or.inl z; exact Or.inr ⟨z.1, by omega, z.2.2⟩, fun q => hi2 (by have := hp6; omega), hi3⟩) FR_hL M_hL FI_IL FA_AL hML hCL hsL K_IL_31
        rw [hbk] at h9
        exact h9
  exact lp 4 0 h2n1 I A2n1 c0 w0 rfl ⟨Or.inl rfl, fun q => absurd q (by decide), show 0 < 2 ^ 20 by decide⟩ FR_h2n1 M_h2n1 FI_I FA_A2n1 hM1 hC hss1 K_I_31
set_option maxRecDepth 20000 in
theorem m_bestOrder {d n s : Nat} {h : Nat → aE} {m : Nat} {I : Nat → Int32} {AR : Nat → Nat → Int32} {LN : Nat → Int64} {c0 w0 tb : Nat} {ss : List Nat} (hm : m + 43 < n) (M_h : MAt h m I AR LN) (htb : tb = 0 ∨ tb = 2) (hok : SyOk ss) (hss : SyM AR tb ss) (hM : MadeIs I AR c0 w0) (K_I_31 : I 31 = (nI ss.length)) {Ψ : Option Value → aH → Prop} (kk : ∀ h' I' A' c w, Fr h h' (inM m) → MAt h' m I' A' LN → Fi I I' (fun f => f = 38) → FaS AR A' (fun b => b = 24 ∨ (26 ≤ b ∧ b ≤ 33)) → MadeIs I' A' c w → CntM A' (cdF ss).1 → 5 ≤ (boF ss 5).1 → (boF ss 5).1 ≤ 9 → (cdF ss).2 ≤ 2 ^ (boF ss 5).1 → (boF ss 5).2 = shC ss (boF ss 5).1 → Ψ (some (.int (nI (boF ss 5).1))) (n, s, h')) : WO (mM (d + 5)) 171 [.ref m, .int (nI tb)] (n, s, h) Ψ := by
  refine WO.of (Nat.le_of_ble_eq_true rfl) ?_
  have FR_h : Fr h h (inM m) := Fr.rf
  have FI_I : Fi I I (fun f => f = 38) := Fi.rf
  have FA_AR : FaS AR AR (fun b => b = 24 ∨ (26 ≤ b ∧ b ≤ 33)) := FaS.rf
  have hd64 := cd_le hok.1
  obtain ⟨hok1, hok2, hok3⟩ := id hok
  show WX (lk tX12_bestOrder) (mM (d + 4)) Ψ 0 [(0, .ref m), (1, .int (nI tb))] [] (n, s, h)
  refine WX.s1 rfl rfl ?_
  refine WX.s1 rfl rfl ?_
  refine WX.callC (vs := [.ref m, .int (nI tb)]) rfl rfl rfl (Nat.le_of_ble_eq_true rfl) (M_h.rcv hm) ?_
  refine m_countS hm M_h (by omega) hok.2.2 hss K_I_31 (fun h2n1 A2n1 fr2n1 M_h2n1 fa2n1 hC0 => ?_)
  have FR_h2n1 := FR_h.ztr fr2n1
  have FA_A2n1 : FaS AR A2n1 (fun b => b = 24 ∨ (26 ≤ b ∧ b ≤ 33)) := FA_AR.ztr (fa2n1.mono (fun x hx => by omega))
  have hC : CntM A2n1 (cdF ss).1 := fun s hs => hC0 s (by omega)
  have hM1 : MadeIs I A2n1 c0 w0 := by unfold MadeIs; rw [fa2n1 24 (by decide)]; exact hM
  have hss1 : SyM A2n1 tb ss := fun i hi => by rw [fa2n1 21 (by decide)]; exact hss i hi
  show WX _ _ _ 5 [(0, .ref m), (1, .int (nI tb))] [.int (nI (cdF ss).2)] (n, s, h2n1)
  refine WX.s1 (L' := [(0, .ref m), (1, .int (nI tb)), (2, .int (nI (cdF ss).2))]) rfl rfl ?_
  refine WX.s1 rfl rfl ?_
  refine WX.s1 (L' := [(0, .ref m), (1, .int (nI tb)), (2, .int (nI (cdF ss).2)), (3, .int (-1))]) rfl rfl ?_
  refine WX.s1 rfl rfl ?_
  refine WX.s1 (L' := [(0, .ref m), (1, .int (nI tb)), (2, .int (nI (cdF ss).2)), (3, .int (-1)), (4, .int 0)]) rfl rfl ?_
  refine WX.s1 rfl rfl ?_
  refine WX.s1 (L' := [(0, .ref m), (1, .int (nI tb)), (2, .int (nI (cdF ss).2)), (3, .int (-1)), (4, .int 0), (5, .int 5)]) rfl rfl ?_
  have lp : ∀ (t k : Nat) (hL : Nat → aE) (IL : Nat → Int32) (AL : Nat → Nat → Int32) (c w : Nat), k + t = 5 → ((boF ss k).1 = 0 ∨ (5 ≤ (boF ss k).1 ∧ (boF ss k).1 < 5 + k ∧ (cdF ss).2 ≤ 2 ^ (boF ss k).1 ∧ (boF ss k).2 = shC ss (boF ss k).1)) ∧ (2 ≤ k → (boF ss k).1 ≠ 0) ∧ (boF ss k).2 < 2 ^ 20 → Fr h hL (inM m) → MAt hL m IL AL LN → Fi I IL (fun f => f = 38) → FaS AR AL (fun b => b = 24 ∨ (26 ≤ b ∧ b ≤ 33)) → MadeIs IL AL c w → CntM AL (cdF ss).1 → SyM AL tb ss → IL 31 = nI ss.length → WX (lk tX12_bestOrder) (mM (d + 4)) Ψ 14 [(0, .ref m), (1, .int (nI tb)), (2, .int (nI (cdF ss).2)), (3, .int (if (boF ss k).1 = 0 then -1 else nI (boF ss k).1)), (4, .int (nI (boF ss k).2)), (5, .int (nI (5 + k)))] [] (n, s, hL) := by
    clear M_h FR_h FA_AR FI_I M_h2n1 FR_h2n1 FA_A2n1 hC0 hC hM1 hss1 hss hM fa2n1 fr2n1 K_I_31
    intro t
    induction t with
    | zero =>
      intro k hL IL AL c w hk hI FR_hL M_hL FI_IL FA_AL hML hCL hsL K_IL_31
      obtain ⟨hi1, hi2, hi3⟩ := hI
      obtain rfl : k = 5 := by omega
      have hb0 := hi2 (by decide)
      have hib : 5 ≤ (boF ss 5).1 ∧ (boF ss 5).1 < 5 + 5 ∧ (cdF ss).2 ≤ 2 ^ (boF ss 5).1 ∧ (boF ss 5).2 = shC ss (boF ss 5).1 := by rcases hi1 with z | z; exact absurd z hb0; exact z
      rw [if_neg hb0]
      rw [show nI (5 + 5) = 10 from rfl]
      refine WX.s1 rfl rfl ?_
      refine WX.s1 rfl rfl ?_
      refine WX.s1 rfl rfl ?_
      refine WX.icmp rfl (fun c_18 => ?_) (fun c_18 => absurd (by rcases htb with z | z <;> rw [z] <;> decide) c_18)
      refine WX.s1 rfl rfl ?_
      refine WX.icmp rfl (fun c_28 => ?_) (fun c_28 => absurd (by decide) c_28)
      refine WX.s1 rfl rfl ?_
      refine WX.s1 rfl rfl ?_
      refine WX.s1 rfl rfl ?_
      refine WX.callC (vs := [.ref m, .int (nI tb), .int (nI (boF ss 5).1)]) rfl rfl rfl (Nat.le_of_ble_eq_true rfl) (M_hL.rcv hm) ?_
      refine m_shareCost hm M_hL (by omega) hok hsL hCL hib.1 (by omega) hib.2.2.1 hML K_IL_31 (fun h2 I2 A2 fr2 M_h2 fi2 fa2 hM2 hb2 hU2 hsc2 => ?_)
      refine WX.s1 rfl rfl ?_
      refine WX.s1 rfl rfl ?_
      exact WX.ret1 rfl (kk h2 I2 A2 _ _ (FR_hL.ztr fr2) M_h2 (FI_IL.ztr fi2) (FA_AL.ztr (fa2.mono (fun x hx => by omega))) hM2 (fun s hs => by rw [fa2 33 (by decide)]; exact hCL s hs) hib.1 (by omega) hib.2.2.1 hib.2.2.2)
    | succ t ih =>
      intro k hL IL AL c w hk hI FR_hL M_hL FI_IL FA_AL hML hCL hsL K_IL_31
      obtain ⟨hi1, hi2, hi3⟩ := hI
      have hbk : boF ss (k + 1) = if 2 ^ (5 + k) < (cdF ss).2 then boF ss k else if (boF ss k).1 = 0 ∨ shC ss (5 + k) < (boF ss k).2 then (5 + k, shC ss (5 + k)) else boF ss k := rfl
      have hp6 : 1 ≤ k → 64 ≤ 2 ^ (5 + k) := fun q => Nat.le_trans (show 64 ≤ 2 ^ 6 by decide) (Nat.pow_le_pow_right (by decide) (by omega))
      have hpb : 2 ^ (5 + k) ≤ 2 ^ 9 := Nat.pow_le_pow_right (by decide) (by omega)
      refine WX.s1 rfl rfl ?_
      refine WX.s1 rfl rfl ?_
      refine WX.s1 rfl rfl ?_
      refine WX.icmp rfl (fun c_18 => ?_) (fun c_18 => absurd (by rcases htb with z | z <;> rw [z] <;> decide) c_18)
      refine WX.s1 rfl rfl ?_
      refine WX.icmp rfl (fun c_28 => absurd c_28 (fun zz_ => absurd ((nI_ltI (a := 9) (b := 5 + k) (by omega) (by omega)).mp zz_) (Nat.not_lt.mpr (by omega)))) (fun c_28 => ?_)
      clear c_28
      refine WX.s1 rfl rfl ?_
      refine WX.s1 rfl rfl ?_
      refine WX.s1 rfl rfl ?_
      refine WX.s1 (S' := [.int (1 <<< ((nI (5 + k)) &&& 31)), .int (nI (cdF ss).2)]) rfl rfl ?_
      rw [sh1 (5 + k) (by omega)]
      refine WX.icmp rfl (fun c_36 => ?_) (fun c_36 => ?_)
      · skip
        have n_36 : ((cdF ss).2) ≤ (2 ^ (5 + k)) := (nI_leI (a := (cdF ss).2) (b := 2 ^ (5 + k)) (by omega) (by omega)).mp c_36
        refine WX.s1 rfl rfl ?_
        refine WX.s1 rfl rfl ?_
        refine WX.s1 rfl rfl ?_
        refine WX.callC (vs := [.ref m, .int (nI tb), .int (nI (5 + k))]) rfl rfl rfl (Nat.le_of_ble_eq_true rfl) (M_hL.rcv hm) ?_
        refine m_shareCost hm M_hL (by omega) hok hsL hCL (by omega) (by omega) n_36 hML K_IL_31 (fun h46n2 I46n2 A46n2 fr46n2 M_h46n2 fi46n2 fa46n2 hM2 hb2 hU2 hsc => ?_)
        have FR_h46n2 := FR_hL.ztr fr46n2
        have K_I46n2_31 : I46n2 31 = (nI ss.length) := (fi46n2 31 (by decide)).trans K_IL_31
        have FI_I46n2 : Fi I I46n2 (fun f => f = 38) := FI_IL.zsub fi46n2 (fun j hj => by first | exact hj | omega)
        have FA_A46n2 : FaS AR A46n2 (fun b => b = 24 ∨ (26 ≤ b ∧ b ≤ 33)) := FA_AL.ztr (fa46n2.mono (fun x hx => by omega))
        have hC2 : CntM A46n2 (cdF ss).1 := fun s hs => by rw [fa46n2 33 (by decide)]; exact hCL s hs
        have hs2 : SyM A46n2 tb ss := fun i hi => by rw [fa46n2 21 (by decide)]; exact hsL i hi
        show WX _ _ _ 49 [(0, .ref m), (1, .int (nI tb)), (2, .int (nI (cdF ss).2)), (3, .int (if (boF ss k).1 = 0 then -1 else nI (boF ss k).1)), (4, .int (nI (boF ss k).2)), (5, .int (nI (5 + k)))] [.int (nI (shC ss (5 + k)))] (n, s, h46n2)
        refine WX.s1 (L' := [(0, .ref m), (1, .int (nI tb)), (2, .int (nI (cdF ss).2)), (3, .int (if (boF ss k).1 = 0 then -1 else nI (boF ss k).1)), (4, .int (nI (boF ss k).2)), (5, .int (nI (5 + k))), (6, .int (nI (shC ss (5 + k))))]) rfl rfl ?_
        by_cases hz : (boF ss k).1 = 0
        · rw [if_pos hz]
          refine WX.s1 rfl rfl ?_
          refine WX.if_ rfl (fun c_52 => ?_) (fun c_52 => absurd (by decide) c_52)
          refine WX.s1 rfl rfl ?_
          refine WX.s1 (L' := [(0, .ref m), (1, .int (nI tb)), (2, .int (nI (cdF ss).2)), (3, .int (nI (5 + k))), (4, .int (nI (boF ss k).2)), (5, .int (nI (5 + k))), (6, .int (nI (shC ss (5 + k))))]) rfl rfl ?_
          refine WX.s1 rfl rfl ?_
          refine WX.s1 (L' := [(0, .ref m), (1, .int (nI tb)), (2, .int (nI (cdF ss).2)), (3, .int (nI (5 + k))), (4, .int (nI (shC ss (5 + k)))), (5, .int (nI (5 + k))), (6, .int (nI (shC ss (5 + k))))]) rfl rfl ?_
          refine WX.s1 (L' := [(0, .ref m), (1, .int (nI tb)), (2, .int (nI (cdF ss).2)), (3, .int (nI (5 + k))), (4, .int (nI (shC ss (5 + k)))), (5, .int ((nI (5 + k)) + 1)), (6, .int (nI (shC ss (5 + k))))]) rfl rfl ?_
          rw [show ((nI (5 + k)) + 1) = nI (5 + k + 1) from nI_add (5 + k) 1]
          refine WX.s1 rfl rfl ?_
          refine WX.keep (y := 171) [0, 1, 2, 3, 4, 5] (show ([0, 1, 2, 3, 4, 5, 6] : List Nat).Nodup by decide) rfl ?_
          rw [if_neg (by omega), if_pos (Or.inl hz)] at hbk
          have h9 := ih (k + 1) h46n2 I46n2 A46n2 _ _ (by omega) (by rw [hbk]; exact ⟨Or.inr ⟨by omega, by omega, by omega, rfl⟩, fun _ => by omega, hsc⟩) FR_h46n2 M_h46n2 FI_I46n2 FA_A46n2 hM2 hC2 hs2 K_I46n2_31
          rw [hbk, if_neg (show ¬ 5 + k = 0 by omega)] at h9
          exact h9
        · rw [if_neg hz]
          refine WX.s1 rfl rfl ?_
          refine WX.if_ rfl (fun c_52 => absurd c_52 (nI_nn (by rcases hi1 with z | z <;> omega))) (fun c_52 => ?_)
          refine WX.s1 rfl rfl ?_
          refine WX.s1 rfl rfl ?_
          refine WX.icmp rfl (fun c_59 => ?_) (fun c_59 => ?_)
          · skip
            have n_59 : ((boF ss k).2) ≤ (shC ss (5 + k)) := (nI_leI (a := (boF ss k).2) (b := shC ss (5 + k)) (by omega) (by omega)).mp c_59
            refine WX.s1 (L' := [(0, .ref m), (1, .int (nI tb)), (2, .int (nI (cdF ss).2)), (3, .int (nI (boF ss k).1)), (4, .int (nI (boF ss k).2)), (5, .int ((nI (5 + k)) + 1)), (6, .int (nI (shC ss (5 + k))))]) rfl rfl ?_
            rw [show ((nI (5 + k)) + 1) = nI (5 + k + 1) from nI_add (5 + k) 1]
            refine WX.s1 rfl rfl ?_
            refine WX.keep (y := 171) [0, 1, 2, 3, 4, 5] (show ([0, 1, 2, 3, 4, 5, 6] : List Nat).Nodup by decide) rfl ?_
            rw [if_neg (by omega), if_neg (by omega)] at hbk
            have h9 := ih (k + 1) h46n2 I46n2 A46n2 _ _ (by omega) (by rw [hbk]; exact ⟨by rcases hi1 with z | z; exact Or.inl z; exact Or.inr ⟨z.1, by omega, z.2.2⟩, fun _ => hz, hi3⟩) FR_h46n2 M_h46n2 FI_I46n2 FA_A46n2 hM2 hC2 hs2 K_I46n2_31
            rw [hbk, if_neg hz] at h9
            exact h9
          · skip
            have n_59 : (shC ss (5 + k)) < ((boF ss k).2) := Nat.lt_of_not_le (fun zz_ => c_59 ((nI_leI (a := (boF ss k).2) (b := shC ss (5 + k)) (by omega) (by omega)).mpr zz_))
            refine WX.s1 rfl rfl ?_
            refine WX.s1 (L' := [(0, .ref m), (1, .int (nI tb)), (2, .int (nI (cdF ss).2)), (3, .int (nI (5 + k))), (4, .int (nI (boF ss k).2)), (5, .int (nI (5 + k))), (6, .int (nI (shC ss (5 + k))))]) rfl rfl ?_
            refine WX.s1 rfl rfl ?_
            refine WX.s1 (L' := [(0, .ref m), (1, .int (nI tb)), (2, .int (nI (cdF ss).2)), (3, .int (nI (5 + k))), (4, .int (nI (shC ss (5 + k)))), (5, .int (nI (5 + k))), (6, .int (nI (shC ss (5 + k))))]) rfl rfl ?_
            refine WX.s1 (L' := [(0, .ref m), (1, .int (nI tb)), (2, .int (nI (cdF ss).2)), (3, .int (nI (5 + k))), (4, .int (nI (shC ss (5 + k)))), (5, .int ((nI (5 + k)) + 1)), (6, .int (nI (shC ss (5 + k))))]) rfl rfl ?_
            rw [show ((nI (5 + k)) + 1) = nI (5 + k + 1) from nI_add (5 + k) 1]
            refine WX.s1 rfl rfl ?_
            refine WX.keep (y := 171) [0, 1, 2, 3, 4, 5] (show ([0, 1, 2, 3, 4, 5, 6] : List Nat).Nodup by decide) rfl ?_
            rw [if_neg (by omega), if_pos (Or.inr n_59)] at hbk
            have h9 := ih (k + 1) h46n2 I46n2 A46n2 _ _ (by omega) (by rw [hbk]; exact ⟨Or.inr ⟨by omega, by omega, by omega, rfl⟩, fun _ => by omega, hsc⟩) FR_h46n2 M_h46n2 FI_I46n2 FA_A46n2 hM2 hC2 hs2 K_I46n2_31
            rw [hbk, if_neg (show ¬ 5 + k = 0 by omega)] at h9
            exact h9
      · skip
        have n_36 : (2 ^ (5 + k)) < ((cdF ss).2) := Nat.lt_of_not_le (fun zz_ => c_36 ((nI_leI (a := (cdF ss).2) (b := 2 ^ (5 + k)) (by omega) (by omega)).mpr zz_))
        refine WX.s1 rfl rfl ?_
        refine WX.s1 (L' := [(0, .ref m), (1, .int (nI tb)), (2, .int (nI (cdF ss).2)), (3, .int (if (boF ss k).1 = 0 then -1 else nI (boF ss k).1)), (4, .int (nI (boF ss k).2)), (5, .int ((nI (5 + k)) + 1))]) rfl rfl ?_
        rw [show ((nI (5 + k)) + 1) = nI (5 + k + 1) from nI_add (5 + k) 1]
        refine WX.s1 rfl rfl ?_
        rw [if_pos n_36] at hbk
        have h9 := ih (k + 1) hL IL AL c w (by omega) (by rw [hbk]; exact ⟨by rcases hi1 with z | z; exact Or.inl z; exact Or.inr ⟨z.1, by omega, z.2.2⟩, fun q => hi2 (by have := hp6; omega), hi3⟩) FR_hL M_hL FI_IL FA_AL hML hCL hsL K_IL_31
        rw [hbk] at h9
        exact h9
  exact lp 5 0 h2n1 I A2n1 c0 w0 rfl ⟨Or.inl rfl, fun q => absurd q (by decide), show 0 < 2 ^ 20 by decide⟩ FR_h2n1 M_h2n1 FI_I FA_A2n1 hM1 hC hss1 K_I_31
