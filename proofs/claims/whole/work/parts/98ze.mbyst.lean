/-! the reference: byStates, describe -/
theorem leBy_cons (w n : Nat) : leBy w (n + 1) = w % 256 :: leBy (w / 256) n := by
  unfold leBy
  rw [List.range_succ_eq_map, List.map_cons, List.map_map, Nat.pow_zero, Nat.div_one]
  congr 1
  refine List.map_congr_left (fun i _ => ?_)
  show w / 256 ^ (i + 1) % 256 = w / 256 / 256 ^ i % 256
  rw [Nat.pow_succ, Nat.mul_comm, Nat.div_div_eq_div_mul]
theorem MadeY.set0 {I : Nat → Int32} {A B : Nat → Nat → Int32} {y : List Nat} {x v : Nat} (h : MadeY I A (x :: y)) (hv : v < 256) (e : B 24 = upd (A 24) 0 (nI v)) : MadeY I B (v :: y) := by
  obtain ⟨w, ⟨m1, m2, m3, m4⟩, hl⟩ := h
  rw [show (x :: y).length = y.length + 1 from rfl, leBy_cons] at hl
  have hy := (List.cons.inj hl).2
  have hp : 2 ^ (8 * (x :: y).length) = 2 ^ (8 * y.length) * 256 := by rw [show 8 * (x :: y).length = 8 * y.length + 8 from rfl, Nat.pow_add]
  rw [hp] at m3
  refine ⟨v + 256 * (w / 256), ⟨m1, m2, ?_, fun i hi => ?_⟩, ?_⟩
  · rw [show 8 * (v :: y).length = 8 * (x :: y).length from rfl, hp]
    have : w / 256 < 2 ^ (8 * y.length) := Nat.div_lt_of_lt_mul (by rw [Nat.mul_comm]; exact m3)
    generalize 2 ^ (8 * y.length) = q at *
    omega
  · rw [e]
    by_cases z : i = 0
    · rw [z, pk_us, Nat.pow_zero, Nat.div_one]
      exact congrArg nI (by omega)
    · obtain ⟨j, rfl⟩ : ∃ j, i = j + 1 := ⟨i - 1, by omega⟩
      rw [pk_un z, m4 _ hi, Nat.pow_succ, Nat.mul_comm, ← Nat.div_div_eq_div_mul, ← Nat.div_div_eq_div_mul]
      rw [show (v + 256 * (w / 256)) / 256 = w / 256 by omega]
  · rw [show (v :: y).length = y.length + 1 from rfl, leBy_cons, show (v + 256 * (w / 256)) / 256 = w / 256 by omega, hy, show (v + 256 * (w / 256)) % 256 = v by omega]
def WtM (A : Nat → Nat → Int32) (ws : List Nat) : Prop := ∀ i, i < ws.length → A 39 i = nI (ws.getD i 0)
theorem tw_al {ws : List Nat} {o m w : Nat} (hw : w < 2 ^ (8 * m)) : 8 * (((twE ws o (8 * m, w)).1 + 1 + 7) / 8) = 8 * (m + ((twE ws o (0, 0)).1 / 8 + 1)) ∧ leBy ((twE ws o (8 * m, w)).2 + 2 ^ (twE ws o (8 * m, w)).1) (m + ((twE ws o (0, 0)).1 / 8 + 1)) = leBy w m ++ twY ws o := by
  have h : twE ws o (8 * m, w) = (8 * m + (twE ws o (0, 0)).1, w + (twE ws o (0, 0)).2 * 2 ^ (8 * m)) := by
    have q := twB_sh (8 * m) w (wsU ws o) o ws (ws.length - 2) (lowE (wsU ws o) o (ws.getD (ws.length - 1) 0)) (lowE (wsU ws o) o (ws.getD (ws.length - 2) 0)) (0, 0)
    rw [Nat.add_zero, Nat.zero_mul, Nat.add_zero] at q
    exact q
  rw [h]
  refine ⟨by show 8 * ((8 * m + (twE ws o (0, 0)).1 + 1 + 7) / 8) = _; omega, ?_⟩
  show leBy (w + (twE ws o (0, 0)).2 * 2 ^ (8 * m) + 2 ^ (8 * m + (twE ws o (0, 0)).1)) _ = _
  rw [Nat.pow_add, Nat.mul_comm (2 ^ (8 * m)) (2 ^ _), Nat.add_assoc, ← Nat.add_mul]
  exact leBy_app hw _ _
theorem nI_m3q {n : Nat} (h : 2 ≤ n) : nI n - 3 = qI (n - 2) := by
  by_cases z : n = 2
  · rw [z]; decide
  · rw [show nI n - 3 = nI (n - 3) from nI_subN (b := 3) (by omega), qI_pr (by omega)]
    exact congrArg nI (by omega)
set_option maxRecDepth 20000 in
theorem m_bySt {d n s : Nat} {h : Nat → aE} {m : Nat} {I : Nat → Int32} {AR : Nat → Nat → Int32} {LN : Nat → Int64} {ws : List Nat} {o c0 w0 : Nat} (hm : m + 43 < n) (M_h : MAt h m I AR LN) (ho5 : 5 ≤ o) (ho6 : o ≤ 6) (hws : WsOk ws) (hW : WtM AR ws) (hC : CntM AR (cdF ws).1) (hM : MadeIs I AR c0 w0) (K_I_56 : I 56 = (nI ws.length)) {Ψ : Option Value → aH → Prop} (kk : ∀ h' I' A', Fr h h' (inM m) → MAt h' m I' A' LN → Fi I I' (fun f => f = 38) → FaS AR A' (fun b => b = 24 ∨ (26 ≤ b ∧ b ≤ 32)) → MadeY I' A' ((stY ws o).length :: stY ws o) → Ψ (some (.int (nI (1 + (stY ws o).length)))) (n, s, h')) : WO (mM (d + 3)) 181 [.ref m, .int (nI o)] (n, s, h) Ψ := by
  refine WO.of (Nat.le_of_ble_eq_true rfl) ?_
  have FR_h : Fr h h (inM m) := Fr.rf
  have FI_I : Fi I I (fun f => f = 38) := Fi.rf
  have FA_AR : FaS AR AR (fun b => b = 24 ∨ (26 ≤ b ∧ b ≤ 32)) := FaS.rf
  obtain ⟨s1, s2, s3, s4⟩ := ws_S hws ho5 (by omega)
  have hk := ws_sy hws
  have hd := ws_d hws ho5
  have hsum := cd_sum hk.1
  have hnzc := cd_nz hk.1
  obtain ⟨hw1, hw2, hw3, hw4⟩ := id hws
  obtain ⟨sl1, sl2, sl3, sl4⟩ := st_len hws ho5 ho6
  have p9 : 2 ^ o ≤ 2 ^ 6 := Nat.pow_le_pow_right (by decide) ho6
  obtain ⟨ns, hns⟩ : ∃ q, q = ((shB (wsU ws o) o (0, 0)).1 + 7) / 8 := ⟨_, rfl⟩
  show WX (lk tX12_byStates) (mM (d + 2)) Ψ 0 [(0, .ref m), (1, .int (nI o))] [] (n, s, h)
  refine WX.s1 rfl rfl ?_
  refine WX.callC (vs := [.ref m]) rfl rfl rfl (Nat.le_of_ble_eq_true rfl) (M_h.rcv hm) ?_
  refine m_beginV hm M_h hM (fun h1n1 I1n1 A1n1 fr1n1 M_h1n1 fi1n1 fa1n1 hB0 => ?_)
  have FR_h1n1 := FR_h.ztr fr1n1
  have K_I1n1_56 : I1n1 56 = (nI ws.length) := (fi1n1 56 (by decide)).trans K_I_56
  have FI_I1n1 : Fi I I1n1 (fun f => f = 38) := FI_I.zsub fi1n1 (fun j hj => by first | exact hj | omega)
  have FA_A1n1 : FaS AR A1n1 (fun b => b = 24 ∨ (26 ≤ b ∧ b ≤ 32)) := FA_AR.ztr (fa1n1.toS (by omega))
  show WX _ _ _ 4 [(0, .ref m), (1, .int (nI o))] [] (n, s, h1n1)
  refine WX.s1 rfl rfl ?_
  refine WX.s1 rfl rfl ?_
  refine WX.s1 rfl rfl ?_
  refine WX.callC (vs := [.ref m, .int (nI 0), .int (nI 8)]) rfl rfl rfl (Nat.le_of_ble_eq_true rfl) (M_h1n1.rcv hm) ?_
  refine m_putV hm M_h1n1 (c := 0) (w := 0) hB0 (by decide) (by decide) (by decide) (fun h8n2 I8n2 A8n2 fr8n2 M_h8n2 fi8n2 fa8n2 hB1 => ?_)
  have FR_h8n2 := FR_h1n1.ztr fr8n2
  have K_I8n2_56 : I8n2 56 = (nI ws.length) := (fi8n2 56 (by decide)).trans K_I1n1_56
  have FI_I8n2 : Fi I I8n2 (fun f => f = 38) := FI_I1n1.zsub fi8n2 (fun j hj => by first | exact hj | omega)
  have FA_A8n2 : FaS AR A8n2 (fun b => b = 24 ∨ (26 ≤ b ∧ b ≤ 32)) := FA_A1n1.ztr (fa8n2.toS (by omega))
  have hC1 : CntM A8n2 (cdF ws).1 := fun s hs => by rw [FA_A8n2 33 (by decide)]; exact hC s hs
  show WX _ _ _ 11 [(0, .ref m), (1, .int (nI o))] [] (n, s, h8n2)
  refine WX.s1 rfl rfl ?_
  refine WX.s1 rfl rfl ?_
  refine WX.mgetK (x := (nI ws.length)) rfl hm M_h8n2 rfl K_I8n2_56 ?_
  refine WX.s1 rfl rfl ?_
  rw [← hsum]
  refine WX.callC (vs := [.ref m, .int (nI (sumN (cdF ws).1 64)), .int (nI o)]) rfl rfl rfl (Nat.le_of_ble_eq_true rfl) (M_h8n2.rcv hm) ?_
  refine m_divide hm M_h8n2 hC1 (by omega) (by rw [hsum]; omega) (by rw [hsum]; omega) (by rw [hnzc]; exact hd) (fun h17n3 A17n3 fr17n3 M_h17n3 fa17n3 hU => ?_)
  have FR_h17n3 := FR_h8n2.ztr fr17n3
  have FA_A17n3 : FaS AR A17n3 (fun b => b = 24 ∨ (26 ≤ b ∧ b ≤ 32)) := FA_A8n2.ztr (fa17n3.mono (fun x hx => by omega))
  have hB2 := hB1.mv (fa17n3 24 (by decide))
  have hU0 : ∀ s, s < 64 → A17n3 30 s = qI (wsU ws o s) := hU
  show WX _ _ _ 20 [(0, .ref m), (1, .int (nI o))] [] (n, s, h17n3)
  refine WX.s1 rfl rfl ?_
  refine WX.s1 rfl rfl ?_
  refine WX.mget rfl hm M_h17n3 rfl ?_
  refine WX.s1 rfl rfl ?_
  refine WX.s1 rfl rfl ?_
  refine WX.callC (vs := [.ref m, .ref (m + 30), .int 0, .int (nI o)]) rfl rfl rfl (Nat.le_of_ble_eq_true rfl) (M_h17n3.rcv hm) ?_
  refine m_putShare hm M_h17n3 ho5 (by omega) hU0 s1 hB2 (by decide) (fun h27n4 I27n4 A27n4 fr27n4 M_h27n4 fi27n4 fa27n4 hB3 hb3 => ?_)
  have FR_h27n4 := FR_h17n3.ztr fr27n4
  have K_I27n4_56 : I27n4 56 = (nI ws.length) := (fi27n4 56 (by decide)).trans K_I8n2_56
  have FI_I27n4 : Fi I I27n4 (fun f => f = 38) := FI_I8n2.zsub fi27n4 (fun j hj => by first | exact hj | omega)
  have FA_A27n4 : FaS AR A27n4 (fun b => b = 24 ∨ (26 ≤ b ∧ b ≤ 32)) := FA_A17n3.ztr (fa27n4.toS (by omega))
  rw [show 0 + 0 % 2 ^ 8 * 2 ^ 0 = 0 from rfl, show (0 : Nat) + 8 = 8 from rfl, shB_sh 8 0 (wsU ws o) o] at hB3
  have hB4 : MadeIs I27n4 A27n4 (8 * (1 + ns)) (0 + (shB (wsU ws o) o (0, 0)).2 * 2 ^ (8 * 1)) := by have e : 8 * ((8 + (shB (wsU ws o) o (0, 0)).1 + 7) / 8) = 8 * (1 + ns) := (by rw [hns]; omega); rw [← e]; exact hB3
  have hU1 : ∀ s, s < 64 → A27n4 30 (0 + s) = qI (wsU ws o s) := fun s hs => by rw [Nat.zero_add, fa27n4 30 (by decide)]; exact hU0 s hs
  show WX _ _ _ 30 [(0, .ref m), (1, .int (nI o))] [] (n, s, h27n4)
  refine WX.s1 rfl rfl ?_
  refine WX.s1 rfl rfl ?_
  refine WX.mget rfl hm M_h27n4 rfl ?_
  refine WX.s1 rfl rfl ?_
  refine WX.s1 rfl rfl ?_
  refine WX.s1 rfl rfl ?_
  refine WX.s1 rfl rfl ?_
  refine WX.callC (vs := [.ref m, .ref (m + 30), .int (nI 0), .int 64, .int (nI o), .int (nI 1536)]) rfl rfl rfl (Nat.le_of_ble_eq_true rfl) (M_h27n4.rcv hm) ?_
  refine m_lay30 hm M_h27n4 (by decide) (Or.inr ho5) (by omega) (by omega) hU1 s1 (fun h1 A1 fr1 M_h1 fa1 hP _ => ?_)
  have FR_h1 := FR_h27n4.ztr fr1
  have FA_A1 : FaS AR A1 (fun b => b = 24 ∨ (26 ≤ b ∧ b ≤ 32)) := FA_A27n4.ztr (fa1.mono (fun x hx => by omega))
  have hB5 := hB4.mv (fa1 24 (by decide))
  have hW1 : WtM A1 ws := fun i hi => by rw [FA_A1 39 (by decide)]; exact hW i hi
  have hlA := lw_ex hws ho5 (by omega) (show ws.length - 1 < ws.length by omega)
  have hlB := lw_ex hws ho5 (by omega) (show ws.length - 2 < ws.length by omega)
  have mA := getD_mem (show ws.length - 1 < ws.length by omega)
  have mB := getD_mem (show ws.length - 2 < ws.length by omega)
  have wA := hw1 _ mA
  have wB := hw1 _ mB
  show WX _ _ _ 45 [(0, .ref m), (1, .int (nI o))] [] (n, s, h1)
  refine WX.s1 rfl rfl ?_
  refine WX.s1 rfl rfl ?_
  refine WX.s1 rfl rfl ?_
  refine WX.s1 rfl rfl ?_
  refine WX.mget rfl hm M_h1 rfl ?_
  refine WX.s1 rfl rfl ?_
  refine WX.mgetK (x := (nI ws.length)) rfl hm M_h1 rfl K_I27n4_56 ?_
  refine WX.s1 rfl rfl ?_
  refine WX.s1 (S' := [.int ((nI ws.length) - 1), .ref (m + 39), .int (nI o), .int 1536, .ref m]) rfl rfl ?_
  rw [nI_pm1 (by omega)]
  refine WX.mald (c := 39) rfl hm M_h1 (by decide) (by decide) (by decide) (by decide) (vp_in_nI (N := 257) (by omega) (by decide)) ?_
  rw [nI_clamp (by omega), hW1 _ (by omega)]
  refine WX.s1 rfl rfl ?_
  refine WX.callC (vs := [.ref m, .int (nI 1536), .int (nI o), .int (nI (ws.getD (ws.length - 1) 0)), .int 1]) rfl rfl rfl (Nat.le_of_ble_eq_true rfl) (M_h1.rcv hm) ?_
  refine m_lowest hm M_h1 (Or.inr ho5) (by omega) (by omega) s1 hP (s3 _ mA).1 (s3 _ mA).2 (Or.inr (s4 _ mA)) (fun p hp => ?_)
  rw [show p = lowE (wsU ws o) o (ws.getD (ws.length - 1) 0) from (low_of hp).symm]
  show WX _ _ _ 65 [(0, .ref m), (1, .int (nI o))] [.int (nI (lowE (wsU ws o) o (ws.getD (ws.length - 1) 0)))] (n, s, h1)
  refine WX.s1 (L' := [(0, .ref m), (1, .int (nI o)), (2, .int (nI (lowE (wsU ws o) o (ws.getD (ws.length - 1) 0))))]) rfl rfl ?_
  refine WX.s1 rfl rfl ?_
  refine WX.s1 rfl rfl ?_
  refine WX.s1 rfl rfl ?_
  refine WX.s1 rfl rfl ?_
  refine WX.mget rfl hm M_h1 rfl ?_
  refine WX.s1 rfl rfl ?_
  refine WX.mgetK (x := (nI ws.length)) rfl hm M_h1 rfl K_I27n4_56 ?_
  refine WX.s1 rfl rfl ?_
  refine WX.s1 (S' := [.int ((nI ws.length) - 2), .ref (m + 39), .int (nI o), .int 1536, .ref m]) rfl rfl ?_
  rw [show nI ws.length - 2 = nI (ws.length - 2) from nI_subN (b := 2) (by omega)]
  refine WX.mald (c := 39) rfl hm M_h1 (by decide) (by decide) (by decide) (by decide) (vp_in_nI (N := 257) (by omega) (by decide)) ?_
  rw [nI_clamp (by omega), hW1 _ (by omega)]
  refine WX.s1 rfl rfl ?_
  refine WX.callC (vs := [.ref m, .int (nI 1536), .int (nI o), .int (nI (ws.getD (ws.length - 2) 0)), .int 1]) rfl rfl rfl (Nat.le_of_ble_eq_true rfl) (M_h1.rcv hm) ?_
  refine m_lowest hm M_h1 (Or.inr ho5) (by omega) (by omega) s1 hP (s3 _ mB).1 (s3 _ mB).2 (Or.inr (s4 _ mB)) (fun p hp => ?_)
  rw [show p = lowE (wsU ws o) o (ws.getD (ws.length - 2) 0) from (low_of hp).symm]
  show WX _ _ _ 86 [(0, .ref m), (1, .int (nI o)), (2, .int (nI (lowE (wsU ws o) o (ws.getD (ws.length - 1) 0))))] [.int (nI (lowE (wsU ws o) o (ws.getD (ws.length - 2) 0)))] (n, s, h1)
  refine WX.s1 (L' := [(0, .ref m), (1, .int (nI o)), (2, .int (nI (lowE (wsU ws o) o (ws.getD (ws.length - 1) 0)))), (3, .int (nI (lowE (wsU ws o) o (ws.getD (ws.length - 2) 0))))]) rfl rfl ?_
  refine WX.s1 rfl rfl ?_
  refine WX.mgetK (x := (nI ws.length)) rfl hm M_h1 rfl K_I27n4_56 ?_
  refine WX.s1 rfl rfl ?_
  refine WX.s1 (S' := [.int ((nI ws.length) - 3)]) rfl rfl ?_
  rw [nI_m3q (by omega)]
  refine WX.s1 (L' := [(0, .ref m), (1, .int (nI o)), (2, .int (nI (lowE (wsU ws o) o (ws.getD (ws.length - 1) 0)))), (3, .int (nI (lowE (wsU ws o) o (ws.getD (ws.length - 2) 0)))), (4, .int (qI (ws.length - 2)))]) rfl rfl ?_
  have lp : ∀ (i a b : Nat) (B : Nat × Nat) (hL : Nat → aE) (IL : Nat → Int32) (AL : Nat → Nat → Int32), i + 2 ≤ ws.length → a < 2 ^ o → b < 2 ^ o → B.1 + o * i ≤ 1800 → Fr h hL (inM m) → MAt hL m IL AL LN → Fi I IL (fun f => f = 38) → FaS AR AL (fun b => b = 24 ∨ (26 ≤ b ∧ b ≤ 32)) → Fa A1 AL 24 → MadeIs IL AL B.1 B.2 → twB (wsU ws o) o ws i a b B = twE ws o (8 * (1 + ns), 0 + (shB (wsU ws o) o (0, 0)).2 * 2 ^ (8 * 1)) → WX (lk tX12_byStates) (mM (d + 2)) Ψ 95 [(0, .ref m), (1, .int (nI o)), (2, .int (nI a)), (3, .int (nI b)), (4, .int (qI i))] [] (n, s, hL) := by
    clear M_h1 FR_h1 FA_A1
    intro i
    induction i with
    | zero =>
      intro a b B hL IL AL hi ha hb hB FR_hL M_hL FI_IL FA_AL fa9 hM9 hT
      rw [qI0]
      refine WX.s1 rfl rfl ?_
      refine WX.if_ rfl (fun c_97 => ?_) (fun c_97 => absurd (by decide) c_97)
      refine WX.s1 rfl rfl ?_
      refine WX.s1 rfl rfl ?_
      refine WX.s1 rfl rfl ?_
      refine WX.callC (vs := [.ref m, .int (nI a), .int (nI o)]) rfl rfl rfl (Nat.le_of_ble_eq_true rfl) (M_hL.rcv hm) ?_
      refine m_putV hm M_hL (c := B.1) (w := B.2) hM9 (by omega) (by omega) (by omega) (fun h160n101 I160n101 A160n101 fr160n101 M_h160n101 fi160n101 fa160n101 hE1 => ?_)
      have FR_h160n101 := FR_hL.ztr fr160n101
      have FI_I160n101 : Fi I I160n101 (fun f => f = 38) := FI_IL.zsub fi160n101 (fun j hj => by first | exact hj | omega)
      have FA_A160n101 : FaS AR A160n101 (fun b => b = 24 ∨ (26 ≤ b ∧ b ≤ 32)) := FA_AL.ztr (fa160n101.toS (by omega))
      show WX _ _ _ 163 [(0, .ref m), (1, .int (nI o)), (2, .int (nI a)), (3, .int (nI b)), (4, .int (-1))] [] (n, s, h160n101)
      refine WX.s1 rfl rfl ?_
      refine WX.s1 rfl rfl ?_
      refine WX.s1 rfl rfl ?_
      refine WX.callC (vs := [.ref m, .int (nI b), .int (nI o)]) rfl rfl rfl (Nat.le_of_ble_eq_true rfl) (M_h160n101.rcv hm) ?_
      refine m_putV hm M_h160n101 (c := (addB B a o).1) (w := (addB B a o).2) hE1 (by omega) (by omega) (by rw [addB1]; omega) (fun h166n102 I166n102 A166n102 fr166n102 M_h166n102 fi166n102 fa166n102 hE2 => ?_)
      have FR_h166n102 := FR_h160n101.ztr fr166n102
      have FI_I166n102 : Fi I I166n102 (fun f => f = 38) := FI_I160n101.zsub fi166n102 (fun j hj => by first | exact hj | omega)
      have FA_A166n102 : FaS AR A166n102 (fun b => b = 24 ∨ (26 ≤ b ∧ b ≤ 32)) := FA_A160n101.ztr (fa166n102.toS (by omega))
      show WX _ _ _ 169 [(0, .ref m), (1, .int (nI o)), (2, .int (nI a)), (3, .int (nI b)), (4, .int (-1))] [] (n, s, h166n102)
      refine WX.s1 rfl rfl ?_
      refine WX.s1 rfl rfl ?_
      refine WX.s1 rfl rfl ?_
      refine WX.callC (vs := [.ref m, .int (nI 1), .int (nI 1)]) rfl rfl rfl (Nat.le_of_ble_eq_true rfl) (M_h166n102.rcv hm) ?_
      refine m_putV hm M_h166n102 (c := (addB (addB B a o) b o).1) (w := (addB (addB B a o) b o).2) hE2 (by decide) (by decide) (by rw [addB1, addB1]; omega) (fun h172n103 I172n103 A172n103 fr172n103 M_h172n103 fi172n103 fa172n103 hE3 => ?_)
      have FR_h172n103 := FR_h166n102.ztr fr172n103
      have FI_I172n103 : Fi I I172n103 (fun f => f = 38) := FI_I166n102.zsub fi172n103 (fun j hj => by first | exact hj | omega)
      have FA_A172n103 : FaS AR A172n103 (fun b => b = 24 ∨ (26 ≤ b ∧ b ≤ 32)) := FA_A166n102.ztr (fa172n103.toS (by omega))
      have hQ : (addB (addB B a o) b o) = twE ws o (8 * (1 + ns), 0 + (shB (wsU ws o) o (0, 0)).2 * 2 ^ (8 * 1)) := hT
      have hqb : (addB (addB B a o) b o).1 ≤ 1900 := by rw [addB1, addB1]; omega
      rw [hQ] at hqb hE3
      rw [show 1 % 2 ^ 1 * 2 ^ (twE ws o (8 * (1 + ns), 0 + (shB (wsU ws o) o (0, 0)).2 * 2 ^ (8 * 1))).1 = 2 ^ (twE ws o (8 * (1 + ns), 0 + (shB (wsU ws o) o (0, 0)).2 * 2 ^ (8 * 1))).1 from Nat.one_mul _] at hE3
      show WX _ _ _ 175 [(0, .ref m), (1, .int (nI o)), (2, .int (nI a)), (3, .int (nI b)), (4, .int (-1))] [] (n, s, h172n103)
      refine WX.s1 rfl rfl ?_
      refine WX.callC (vs := [.ref m]) rfl rfl rfl (Nat.le_of_ble_eq_true rfl) (M_h172n103.rcv hm) ?_
      refine m_fillV hm M_h172n103 hE3 (by omega) (fun h176n104 I176n104 A176n104 fr176n104 M_h176n104 fi176n104 fa176n104 hE4 => ?_)
      have FR_h176n104 := FR_h172n103.ztr fr176n104
      have FI_I176n104 : Fi I I176n104 (fun f => f = 38) := FI_I172n103.zsub fi176n104 (fun j hj => by first | exact hj | omega)
      have FA_A176n104 : FaS AR A176n104 (fun b => b = 24 ∨ (26 ≤ b ∧ b ≤ 32)) := FA_A172n103.ztr (fa176n104.toS (by omega))
      have hw4 : 0 + (shB (wsU ws o) o (0, 0)).2 * 2 ^ (8 * 1) < 2 ^ (8 * (1 + ns)) := hB5.2.2.1
      obtain ⟨al1, al2⟩ := tw_al (ws := ws) (o := o) hw4
      rw [al1] at hE4
      have hfin : MadeY I176n104 A176n104 (0 :: stY ws o) := by
        have e1 : (0 :: stY ws o).length = 1 + ns + ((twE ws o (0, 0)).1 / 8 + 1) := by show (shY ws o ++ twY ws o).length + 1 = _; rw [List.length_append]; unfold shY twY; rw [leBy_len, leBy_len, ← hns]; omega
        refine ⟨_, by rw [e1]; exact hE4, ?_⟩
        rw [e1, al2, leBy_app (show 0 < 2 ^ (8 * 1) by decide)]
        show [0] ++ leBy _ ns ++ _ = [0] ++ (shY ws o ++ twY ws o)
        rw [hns, List.append_assoc]
        rfl
      have hbt := hE4.1
      have hlt : (stY ws o).length + 1 = 1 + ns + ((twE ws o (0, 0)).1 / 8 + 1) := by show (shY ws o ++ twY ws o).length + 1 = _; rw [List.length_append]; unfold shY twY; rw [leBy_len, leBy_len, ← hns]; omega
      rw [← hlt] at hbt
      have K_I176n104_38 : I176n104 38 = nI (8 * ((stY ws o).length + 1)) := hbt
      show WX _ _ _ 179 [(0, .ref m), (1, .int (nI o)), (2, .int (nI a)), (3, .int (nI b)), (4, .int (-1))] [] (n, s, h176n104)
      refine WX.s1 rfl rfl ?_
      refine WX.mget rfl hm M_h176n104 rfl ?_
      refine WX.s1 rfl rfl ?_
      refine WX.s1 rfl rfl ?_
      refine WX.mgetK (x := (nI (8 * ((stY ws o).length + 1)))) rfl hm M_h176n104 rfl K_I176n104_38 ?_
      refine WX.s1 rfl rfl ?_
      refine WX.div rfl (by decide) ?_
      rw [show nI (8 * ((stY ws o).length + 1)) / 8 = nI ((stY ws o).length + 1) from (pk_div (by omega) (by decide) (by decide)).trans (congrArg nI (Nat.mul_div_cancel_left _ (by decide)))]
      refine WX.s1 rfl rfl ?_
      refine WX.s1 (S' := [.int ((nI ((stY ws o).length + 1)) - 1), .int 0, .ref (m + 24)]) rfl rfl ?_
      rw [nI_pm1 (by omega), Nat.add_sub_cancel]
      have w9 := FA_A176n104
      refine WX.mast (c := 24) rfl hm M_h176n104 (by decide) (by decide) (by decide) (by decide) (by unfold vp_in; decide) (fun h193n105 A193n105 e_A193n105 M_h193n105 frh193n105 => ?_)
      try dsimp only at e_A193n105
      have FR_h193n105 := FR_h176n104.ztr frh193n105
      clear M_h176n104 FR_h176n104 frh193n105
      refine WX.s1 rfl rfl ?_
      refine WX.mgetK (x := (nI (8 * ((stY ws o).length + 1)))) rfl hm M_h193n105 rfl K_I176n104_38 ?_
      refine WX.s1 rfl rfl ?_
      refine WX.div rfl (by decide) ?_
      rw [show nI (8 * ((stY ws o).length + 1)) / 8 = nI ((stY ws o).length + 1) from (pk_div (by omega) (by decide) (by decide)).trans (congrArg nI (Nat.mul_div_cancel_left _ (by decide)))]
      have h9 := kk h193n105 I176n104 A193n105 FR_h193n105 M_h193n105 FI_I176n104 (w9.ast e_A193n105 (by omega)) (hfin.set0 (by omega) (by rw [e_A193n105, upA_same]; rfl))
      rw [Nat.add_comm] at h9
      exact WX.ret1 rfl h9
    | succ i ih =>
      intro a b B hL IL AL hi ha hb hB FR_hL M_hL FI_IL FA_AL fa9 hM9 hT
      rw [qIs]
      have mm := getD_mem (show i < ws.length by omega)
      have hwi := hw1 _ mm
      have oi : o * (i + 1) = o * i + o := Nat.mul_succ o i
      have hPl : PlA AL 1536 o 64 (wsU ws o) := fun k hk => by rw [fa9 26 (by decide), fa9 27 (by decide), fa9 28 (by decide)]; exact hP k hk
      refine WX.s1 rfl rfl ?_
      refine WX.if_ rfl (fun c_97 => absurd c_97 (fun zz_ => absurd ((nI_ltI (a := i) (b := 0) (by omega) (by omega)).mp zz_) (Nat.not_lt.mpr (by omega)))) (fun c_97 => ?_)
      clear c_97
      refine WX.s1 rfl rfl ?_
      refine WX.s1 rfl rfl ?_
      refine WX.s1 rfl rfl ?_
      refine WX.s1 rfl rfl ?_
      refine WX.mget rfl hm M_hL rfl ?_
      refine WX.s1 rfl rfl ?_
      refine WX.mald (c := 39) rfl hm M_hL (by decide) (by decide) (by decide) (by decide) (vp_in_nI (N := 257) (by omega) (by decide)) ?_
      rw [nI_clamp (by omega), fa9 39 (by decide), hW1 _ (by omega)]
      refine WX.s1 rfl rfl ?_
      refine WX.callC (vs := [.ref m, .int (nI 1536), .int (nI o), .int (nI (ws.getD i 0)), .int (nI a)]) rfl rfl rfl (Nat.le_of_ble_eq_true rfl) (M_hL.rcv hm) ?_
      refine m_leading hm M_hL (Or.inr ho5) (by omega) (by omega) s1 hPl (s3 _ mm).1 (s3 _ mm).2 ha (fun p V hN h27 h28 => ?_)
      obtain ⟨e1, e2⟩ := nx_of2 (Or.inr ho5) (by omega) s1 hN
      obtain ⟨n1, n2⟩ := nx_lt hN
      have hmd : a % 2 ^ V ≤ a := Nat.mod_le _ _
      show WX _ _ _ 116 [(0, .ref m), (1, .int (nI o)), (2, .int (nI a)), (3, .int (nI b)), (4, .int (nI i))] [.int (nI p)] (n, s, hL)
      refine WX.s1 (L' := [(0, .ref m), (1, .int (nI o)), (2, .int (nI a)), (3, .int (nI b)), (4, .int (nI i)), (5, .int (nI p))]) rfl rfl ?_
      refine WX.s1 rfl rfl ?_
      refine WX.s1 rfl rfl ?_
      refine WX.s1 rfl rfl ?_
      refine WX.mget rfl hm M_hL rfl ?_
      refine WX.s1 rfl rfl ?_
      refine WX.s1 rfl rfl ?_
      refine WX.s1 (S' := [.int (1536 + (nI p)), .ref (m + 28), .int (nI a), .ref m]) rfl rfl ?_
      rw [show (1536 + (nI p)) = nI (1536 + p) from nI_add 1536 p]
      refine WX.mald (c := 28) rfl hm M_hL (by decide) (by decide) (by decide) (by decide) (vp_in_nI (N := 2048) (by omega) (by decide)) ?_
      rw [nI_clamp (by omega), h28]
      refine WX.s1 (S' := [.int ((nI a) - (nI (a - a % 2 ^ V))), .ref m]) rfl rfl ?_
      rw [nI_subN (Nat.sub_le _ _), show a - (a - a % 2 ^ V) = a % 2 ^ V by omega]
      refine WX.s1 rfl rfl ?_
      refine WX.mget rfl hm M_hL rfl ?_
      refine WX.s1 rfl rfl ?_
      refine WX.s1 rfl rfl ?_
      refine WX.s1 (S' := [.int (1536 + (nI p)), .ref (m + 27), .int (nI (a % 2 ^ V)), .ref m]) rfl rfl ?_
      rw [show (1536 + (nI p)) = nI (1536 + p) from nI_add 1536 p]
      refine WX.mald (c := 27) rfl hm M_hL (by decide) (by decide) (by decide) (by decide) (vp_in_nI (N := 2048) (by omega) (by decide)) ?_
      rw [nI_clamp (by omega), h27]
      refine WX.callC (vs := [.ref m, .int (nI (a % 2 ^ V)), .int (nI V)]) rfl rfl rfl (Nat.le_of_ble_eq_true rfl) (M_hL.rcv hm) ?_
      refine m_putV hm M_hL (c := B.1) (w := B.2) hM9 (by omega) (by omega) (by omega) (fun h143n201 I143n201 A143n201 fr143n201 M_h143n201 fi143n201 fa143n201 hE1 => ?_)
      have FR_h143n201 := FR_hL.ztr fr143n201
      have FI_I143n201 : Fi I I143n201 (fun f => f = 38) := FI_IL.zsub fi143n201 (fun j hj => by first | exact hj | omega)
      have FA_A143n201 : FaS AR A143n201 (fun b => b = 24 ∨ (26 ≤ b ∧ b ≤ 32)) := FA_AL.ztr (fa143n201.toS (by omega))
      rw [Nat.mod_mod] at hE1
      have fa8 : Fa A1 A143n201 24 := fa9.ztr fa143n201
      show WX _ _ _ 146 [(0, .ref m), (1, .int (nI o)), (2, .int (nI a)), (3, .int (nI b)), (4, .int (nI i)), (5, .int (nI p))] [] (n, s, h143n201)
      refine WX.s1 rfl rfl ?_
      refine WX.s1 (L' := [(0, .ref m), (1, .int (nI o)), (2, .int (nI b)), (3, .int (nI b)), (4, .int (nI i)), (5, .int (nI p))]) rfl rfl ?_
      refine WX.s1 rfl rfl ?_
      refine WX.s1 (L' := [(0, .ref m), (1, .int (nI o)), (2, .int (nI b)), (3, .int (nI p)), (4, .int (nI i)), (5, .int (nI p))]) rfl rfl ?_
      refine WX.s1 (L' := [(0, .ref m), (1, .int (nI o)), (2, .int (nI b)), (3, .int (nI p)), (4, .int ((nI i) + (-1))), (5, .int (nI p))]) rfl rfl ?_
      rw [show (nI i) + (-1) = qI i from qI_dec i]
      refine WX.keep (y := 181) [0, 1, 2, 3, 4] (show ([0, 1, 2, 3, 4, 5] : List Nat).Nodup by decide) rfl ?_
      refine WX.s1 rfl rfl ?_
      refine ih b p (addB B a V) h143n201 I143n201 A143n201 (by omega) hb n1 (by rw [addB1]; omega) FR_h143n201 M_h143n201 FI_I143n201 FA_A143n201 fa8 hE1 ?_
      rw [← hT, ← e1, ← e2]
      rfl
  have hoi : o * (ws.length - 2) ≤ 6 * 253 := Nat.mul_le_mul ho6 (by omega)
  exact lp (ws.length - 2) _ _ (8 * (1 + ns), 0 + (shB (wsU ws o) o (0, 0)).2 * 2 ^ (8 * 1)) h1 I27n4 A1 (by omega) hlA.1 hlB.1 (by show 8 * (1 + ns) + _ ≤ _; omega) FR_h1 M_h1 FI_I27n4 FA_A1 Fa.rf hB5 rfl
