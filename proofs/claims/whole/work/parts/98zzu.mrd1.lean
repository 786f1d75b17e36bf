/-! weights read: the reference -/
theorem Pl_w {A : Nat → Nat → Int32} {o p : Nat} {u : Nat → Nat} (h5 : 5 ≤ o) (h9 : o ≤ 9) (hS : mSum u 64 = 2 ^ o) (hP : PlA A 1536 o 64 u) (hp : p < 2 ^ o) : A 26 (1536 + p) = nI (osF u o p) ∧ A 27 (1536 + p) = nI (wdF u o p) ∧ A 28 (1536 + p) = nI (rnF u o p * 2 ^ wdF u o p - 2 ^ o) := by
  obtain ⟨a, g, b1, b2, b3, b4⟩ := hP p hp
  have q := (rn_ok h5 h9 hS hp).2.1
  have e : g = Nat.log2 (rnF u o p) := lg2_uq q b1 b2
  refine ⟨a, ?_, ?_⟩
  · rw [b3, e]; rfl
  · rw [b4, e]; rfl
def WsM (I : Nat → Int32) (A : Nat → Nat → Int32) (ws : List Nat) : Prop := I 56 = nI (ws).length ∧ ∀ i, i < (ws).length → A 39 i = nI ((ws).getD i 0)
set_option maxRecDepth 20000 in
theorem m_rsL {d n s : Nat} {h : Nat → aE} {m : Nat} {I : Nat → Int32} {AR : Nat → Nat → Int32} {LN : Nat → Int64} {l ws : List Nat} {o fl c a b : Nat} {u : Nat → Nat} (t : Nat) (hm : m + 43 < n) (M_h : MAt h m I AR LN) (hF : InIs I AR l) (hl : ∀ i, (l).getD i 0 < 256) (hle : (l).length ≤ 8000) (h5 : 5 ≤ o) (h6 : o ≤ 6) (hS : mSum u 64 = 2 ^ o) (hP : PlA AR 1536 o 64 u) (hflc : fl ≤ c) (hc : c ≤ 8 * (l).length) (ha : a < 2 ^ o) (hb : b < 2 ^ o) (ht : (ws).length + t = 255) (hW : WsM I AR ws) (K_I_60 : I 60 = (nI fl)) (K_I_61 : I 61 = (nI c)) {Ψ : Option Value → aH → Prop} (k0 : (rsF l u o fl t c a b ws = none ∨ ∃ w2, rsF l u o fl t c a b ws = some w2 ∧ ¬ (w2).length < 256) → ∀ h' I' A', Fr h h' (inM m) → MAt h' m I' A' LN → Fi I I' (fun f => f = 56 ∨ f = 57 ∨ f = 60 ∨ f = 61) → FaS AR A' (fun b => (26 ≤ b ∧ b ≤ 30) ∨ b = 39) → Ψ (some (.int 0)) (n, s, h')) (k1 : ∀ w2, rsF l u o fl t c a b ws = some w2 → (w2).length < 256 → ∀ h' I' A', Fr h h' (inM m) → MAt h' m I' A' LN → Fi I I' (fun f => f = 56 ∨ f = 57 ∨ f = 60 ∨ f = 61) → FaS AR A' (fun b => (26 ≤ b ∧ b ≤ 30) ∨ b = 39) → WsM I' A' w2 → Ψ (some (.int 1)) (n, s, h')) : WX (lk tX12_readWeights) (mM (d + 1)) Ψ 143 [(0, .ref m), (3, .int (nI a)), (4, .int (nI b))] [] (n, s, h) := by
  induction t generalizing h I AR c a b ws with
  | zero =>
    have FR_h : Fr h h (inM m) := Fr.rf
    have FI_I : Fi I I (fun f => f = 56 ∨ f = 57 ∨ f = 60 ∨ f = 61) := Fi.rf
    have FA_AR : FaS AR AR (fun b => (26 ≤ b ∧ b ≤ 30) ∨ b = 39) := FaS.rf
    have K_I_56 : I 56 = nI (ws).length := hW.1
    refine WX.s1 rfl rfl ?_
    refine WX.mgetK (x := (nI (ws).length)) rfl hm M_h rfl K_I_56 ?_
    refine WX.s1 rfl rfl ?_
    refine WX.icmp rfl (fun c_150 => ?_) (fun c_150 => absurd ((nI_leI (a := 255) (b := (ws).length) (by omega) (by omega)).mpr (by omega)) c_150)
    clear c_150
    refine WX.s1 rfl rfl ?_
    exact WX.ret3 rfl (Or.inl rfl) (k0 (Or.inl rfl) h I AR FR_h M_h FI_I FA_AR)
  | succ t ih =>
    have FR_h : Fr h h (inM m) := Fr.rf
    have FI_I : Fi I I (fun f => f = 56 ∨ f = 57 ∨ f = 60 ∨ f = 61) := Fi.rf
    have FA_AR : FaS AR AR (fun b => (26 ≤ b ∧ b ≤ 30) ∨ b = 39) := FaS.rf
    have K_I_56 : I 56 = nI (ws).length := hW.1
    have hp6 : 2 ^ o ≤ 2 ^ 6 := Nat.pow_le_pow_right (by decide) h6
    obtain ⟨r1, r2, r3, r4, r5, r6, r7⟩ := rn_ok h5 (by omega) hS ha
    obtain ⟨m1, m2, m3, m4⟩ := mv_lt (l := l) (c := c) h5 (by omega) hS ha
    obtain ⟨a1, a2, a3⟩ := Pl_w h5 (by omega) hS hP ha
    obtain ⟨b1, -, -⟩ := Pl_w h5 (by omega) hS hP hb
    refine WX.s1 rfl rfl ?_
    refine WX.mgetK (x := (nI (ws).length)) rfl hm M_h rfl K_I_56 ?_
    refine WX.s1 rfl rfl ?_
    refine WX.icmp rfl (fun c_150 => absurd c_150 (fun zz_ => absurd ((nI_leI (a := 255) (b := (ws).length) (by omega) (by omega)).mp zz_) (Nat.not_le.mpr (by omega)))) (fun c_150 => ?_)
    clear c_150
    refine WX.s1 rfl rfl ?_
    refine WX.mget rfl hm M_h rfl ?_
    refine WX.s1 rfl rfl ?_
    refine WX.mgetK (x := (nI (ws).length)) rfl hm M_h rfl K_I_56 ?_
    refine WX.s1 rfl rfl ?_
    refine WX.mget rfl hm M_h rfl ?_
    refine WX.s1 rfl rfl ?_
    refine WX.s1 rfl rfl ?_
    refine WX.s1 (S' := [.int (1536 + (nI a)), .ref (m + 26), .int (nI (ws).length), .ref (m + 39)]) rfl rfl ?_
    rw [show (1536 : Int32) + nI a = nI (1536 + a) from nI_add 1536 a]
    refine WX.mald (c := 26) rfl hm M_h (by decide) (by decide) (by decide) (by decide) (vp_in_nI (N := 2048) (by omega) (by decide)) ?_
    rw [nI_clamp (by omega), a1]
    refine WX.mast (c := 39) rfl hm M_h (by decide) (by decide) (by decide) (by decide) (vp_in_nI (N := 257) (by omega) (by decide)) (fun h171n1 A171n1 e_A171n1 M_h171n1 frh171n1 => ?_)
    try dsimp only at e_A171n1
    have FR_h171n1 := (FR_h).ztr frh171n1
    clear M_h FR_h frh171n1
    rw [nI_clamp (by omega)] at e_A171n1
    have ne1 : ∀ b, b ≠ 39 → A171n1 b = AR b := fun b hb => by rw [e_A171n1, upA_ne hb]
    have hw2 : ∀ i, i < (ws ++ [osF u o a]).length → A171n1 39 i = nI ((ws ++ [osF u o a]).getD i 0) := fun i hi => by
      rw [getD_app, e_A171n1, upA_same]
      rw [List.length_append, List.length_singleton] at hi
      by_cases z : i = (ws).length
      · rw [if_pos z, z, pk_us]
      · rw [if_neg z, pk_un z]; exact hW.2 i (by omega)
    have hwl : (ws ++ [osF u o a]).length = (ws).length + 1 := by rw [List.length_append]; rfl
    have FA_A171n1 : FaS AR A171n1 (fun b => (26 ≤ b ∧ b ≤ 30) ∨ b = 39) := (FA_AR).ast e_A171n1 (by omega)
    refine WX.s1 rfl rfl ?_
    refine WX.s1 rfl rfl ?_
    refine WX.mgetK (x := (nI (ws).length)) rfl hm M_h171n1 rfl K_I_56 ?_
    refine WX.s1 rfl rfl ?_
    refine WX.s1 (S' := [.int ((nI (ws).length) + 1), .ref m]) rfl rfl ?_
    rw [show ((nI (ws).length) + 1) = nI ((ws).length + 1) from nI_add (ws).length 1]
    refine WX.mput rfl hm M_h171n1 (rfl) (by decide) (fun _ => rfl) (fun h179n2 I179n2 e_I179n2 M_h179n2 frh179n2 => ?_)
    have FR_h179n2 := (FR_h171n1).ztr frh179n2
    have FI_I179n2 : Fi I I179n2 (fun f => f = 56 ∨ f = 57 ∨ f = 60 ∨ f = 61) := (FI_I).zup e_I179n2 (by first | exact rfl | decide | omega)
    have K_I179n2_60 : I179n2 60 = (nI fl) := by rw [e_I179n2]; exact (pk_un (by decide)).trans K_I_60
    have K_I179n2_61 : I179n2 61 = (nI c) := by rw [e_I179n2]; exact (pk_un (by decide)).trans K_I_61
    have K_I179n2_56 : I179n2 56 = (nI ((ws).length + 1)) := by rw [e_I179n2]; exact pk_us
    clear M_h171n1 FR_h171n1 FI_I e_I179n2 frh179n2 K_I_60 K_I_61 K_I_56
    refine WX.s1 rfl rfl ?_
    refine WX.mget rfl hm M_h179n2 rfl ?_
    refine WX.s1 rfl rfl ?_
    refine WX.s1 rfl rfl ?_
    refine WX.s1 (S' := [.int (1536 + (nI a)), .ref (m + 27)]) rfl rfl ?_
    rw [show (1536 : Int32) + nI a = nI (1536 + a) from nI_add 1536 a]
    refine WX.mald (c := 27) rfl hm M_h179n2 (by decide) (by decide) (by decide) (by decide) (vp_in_nI (N := 2048) (by omega) (by decide)) ?_
    rw [nI_clamp (by omega), ne1 27 (by decide), a2]
    refine WX.s1 (L' := [(0, .ref m), (3, .int (nI a)), (4, .int (nI b)), (5, .int (nI (wdF u o a)))]) rfl rfl ?_
    refine WX.s1 rfl rfl ?_
    refine WX.mgetK (x := (nI c)) rfl hm M_h179n2 rfl K_I179n2_61 ?_
    refine WX.s1 rfl rfl ?_
    refine WX.mgetK (x := (nI fl)) rfl hm M_h179n2 rfl K_I179n2_60 ?_
    refine WX.s1 (S' := [.int ((nI c) - (nI fl))]) rfl rfl ?_
    rw [nI_subN hflc]
    refine WX.s1 rfl rfl ?_
    refine WX.icmp rfl (fun c_205 => ?_) (fun c_205 => ?_)
    · skip
      have n_205 : (wdF u o a) ≤ (c - fl) := (nI_leI (a := wdF u o a) (b := c - fl) (by omega) (by omega)).mp c_205
      refine WX.s1 rfl rfl ?_
      refine WX.mget rfl hm M_h179n2 rfl ?_
      refine WX.s1 rfl rfl ?_
      refine WX.s1 rfl rfl ?_
      refine WX.s1 (S' := [.int (1536 + (nI a)), .ref (m + 28)]) rfl rfl ?_
      rw [show (1536 : Int32) + nI a = nI (1536 + a) from nI_add 1536 a]
      refine WX.mald (c := 28) rfl hm M_h179n2 (by decide) (by decide) (by decide) (by decide) (vp_in_nI (N := 2048) (by omega) (by decide)) ?_
      rw [nI_clamp (by omega), ne1 28 (by decide), a3]
      refine WX.s1 rfl rfl ?_
      refine WX.s1 rfl rfl ?_
      have hF2 : InIs I179n2 A171n1 l := ⟨(FI_I179n2 1 (by decide)).trans hF.1, by rw [ne1 1 (by decide)]; exact hF.2⟩
      refine WX.callC (vs := [.ref m, .int (nI (wdF u o a))]) rfl rfl rfl (Nat.le_of_ble_eq_true rfl) ((M_h179n2).rcv hm) ?_
      refine m_takeD (d := d) hm M_h179n2 hF2 hl hle hc (by omega) (by omega) K_I179n2_61 (fun h7 I7 fr7 M_h7 fi7 K_I7_61 => ?_)
      have FR_h7 := (FR_h179n2).ztr fr7
      have FI_I7 : Fi I I7 (fun f => f = 56 ∨ f = 57 ∨ f = 60 ∨ f = 61) := (FI_I179n2).zsub fi7 (fun j hj => by omega)
      have K_I7_60 : I7 60 = (nI fl) := (fi7 60 (by decide)).trans K_I179n2_60
      have K_I7_56 : I7 56 = (nI ((ws).length + 1)) := (fi7 56 (by decide)).trans K_I179n2_56
      show WX _ _ _ 270 [(0, .ref m), (3, .int (nI a)), (4, .int (nI b)), (5, .int (nI (wdF u o a)))] [.int (nI (rbN l (c - wdF u o a) (wdF u o a))), .int (nI (rnF u o a * 2 ^ wdF u o a - 2 ^ o))] (n, s, h7)
      refine WX.s1 (S' := [.int ((nI (rnF u o a * 2 ^ wdF u o a - 2 ^ o)) + (nI (rbN l (c - wdF u o a) (wdF u o a))))]) rfl rfl ?_
      rw [nI_add, show rnF u o a * 2 ^ wdF u o a - 2 ^ o + rbN l (c - wdF u o a) (wdF u o a) = mvF l u o a c from rfl]
      refine WX.s1 (L' := [(0, .ref m), (3, .int (nI a)), (4, .int (nI b)), (5, .int (nI (wdF u o a))), (6, .int (nI (mvF l u o a c)))]) rfl rfl ?_
      refine WX.s1 rfl rfl ?_
      refine WX.s1 (L' := [(0, .ref m), (3, .int (nI b)), (4, .int (nI b)), (5, .int (nI (wdF u o a))), (6, .int (nI (mvF l u o a c)))]) rfl rfl ?_
      refine WX.s1 rfl rfl ?_
      refine WX.s1 (L' := [(0, .ref m), (3, .int (nI b)), (4, .int (nI (mvF l u o a c))), (5, .int (nI (wdF u o a))), (6, .int (nI (mvF l u o a c)))]) rfl rfl ?_
      refine WX.s1 rfl rfl ?_
      have e1 := rsF_1 (l := l) (t := t) (b := b) (ws := ws) (show ¬ c - fl < wdF u o a by omega)
      rw [e1] at k0
      simp only [e1] at k1
      refine WX.keep (y := 218) [0, 3, 4] (show ([0, 3, 4, 5, 6] : List Nat).Nodup by decide) rfl ?_
      exact ih M_h7 ⟨(FI_I7 1 (by decide)).trans hF.1, by rw [ne1 1 (by decide)]; exact hF.2⟩ (fun p hp => by rw [ne1 26 (by decide), ne1 27 (by decide), ne1 28 (by decide)]; exact hP p hp) (by omega) (by omega) hb m2 (by omega) ⟨by rw [hwl]; exact K_I7_56, hw2⟩ K_I7_60 K_I7_61 (fun z h8 I8 A8 f8 M8 i8 a8 => k0 z h8 I8 A8 ((FR_h7).ztr f8) M8 ((FI_I7).ztr i8) ((FA_A171n1).ztr a8)) (fun w2 z z2 h8 I8 A8 f8 M8 i8 a8 => k1 w2 z z2 h8 I8 A8 ((FR_h7).ztr f8) M8 ((FI_I7).ztr i8) ((FA_A171n1).ztr a8))
    · skip
      have n_205 : (c - fl) < (wdF u o a) := Nat.lt_of_not_le (fun zz_ => c_205 ((nI_leI (a := wdF u o a) (b := c - fl) (by omega) (by omega)).mpr zz_))
      refine WX.s1 rfl rfl ?_
      refine WX.mget rfl hm M_h179n2 rfl ?_
      refine WX.s1 rfl rfl ?_
      refine WX.mgetK (x := (nI ((ws).length + 1))) rfl hm M_h179n2 rfl K_I179n2_56 ?_
      refine WX.s1 rfl rfl ?_
      refine WX.mget rfl hm M_h179n2 rfl ?_
      refine WX.s1 rfl rfl ?_
      refine WX.s1 rfl rfl ?_
      refine WX.s1 (S' := [.int (1536 + (nI b)), .ref (m + 26), .int (nI ((ws).length + 1)), .ref (m + 39)]) rfl rfl ?_
      rw [show (1536 : Int32) + nI b = nI (1536 + b) from nI_add 1536 b]
      refine WX.mald (c := 26) rfl hm M_h179n2 (by decide) (by decide) (by decide) (by decide) (vp_in_nI (N := 2048) (by omega) (by decide)) ?_
      rw [nI_clamp (by omega), ne1 26 (by decide), b1]
      refine WX.mast (c := 39) rfl hm M_h179n2 (by decide) (by decide) (by decide) (by decide) (vp_in_nI (N := 257) (by omega) (by decide)) (fun h227n3 A227n3 e_A227n3 M_h227n3 frh227n3 => ?_)
      try dsimp only at e_A227n3
      have FR_h227n3 := (FR_h179n2).ztr frh227n3
      clear M_h179n2 FR_h179n2 frh227n3
      rw [nI_clamp (by omega)] at e_A227n3
      have hl2 : (ws ++ [osF u o a] ++ [osF u o b]).length = (ws).length + 2 := by rw [List.length_append, hwl]; rfl
      have e0 := rsF_0 (l := l) (t := t) (b := b) (ws := ws) (show c - fl < wdF u o a by omega)
      have FA_A227n3 : FaS AR A227n3 (fun b => (26 ≤ b ∧ b ≤ 30) ∨ b = 39) := (FA_A171n1).ast e_A227n3 (by omega)
      refine WX.s1 rfl rfl ?_
      refine WX.s1 rfl rfl ?_
      refine WX.mgetK (x := (nI ((ws).length + 1))) rfl hm M_h227n3 rfl K_I179n2_56 ?_
      refine WX.s1 rfl rfl ?_
      refine WX.s1 (S' := [.int ((nI ((ws).length + 1)) + 1), .ref m]) rfl rfl ?_
      rw [show ((nI ((ws).length + 1)) + 1) = nI ((ws).length + 1 + 1) from nI_add ((ws).length + 1) 1]
      refine WX.mput rfl hm M_h227n3 (rfl) (by decide) (fun _ => rfl) (fun h235n4 I235n4 e_I235n4 M_h235n4 frh235n4 => ?_)
      have FR_h235n4 := (FR_h227n3).ztr frh235n4
      have FI_I235n4 : Fi I I235n4 (fun f => f = 56 ∨ f = 57 ∨ f = 60 ∨ f = 61) := (FI_I179n2).zup e_I235n4 (by first | exact rfl | decide | omega)
      have K_I235n4_60 : I235n4 60 = (nI fl) := by rw [e_I235n4]; exact (pk_un (by decide)).trans K_I179n2_60
      have K_I235n4_61 : I235n4 61 = (nI c) := by rw [e_I235n4]; exact (pk_un (by decide)).trans K_I179n2_61
      have K_I235n4_56 : I235n4 56 = (nI ((ws).length + 1 + 1)) := by rw [e_I235n4]; exact pk_us
      clear M_h227n3 FR_h227n3 FI_I179n2 e_I235n4 frh235n4 K_I179n2_60 K_I179n2_61 K_I179n2_56
      refine WX.s1 rfl rfl ?_
      refine WX.mgetK (x := (nI ((ws).length + 1 + 1))) rfl hm M_h235n4 rfl K_I235n4_56 ?_
      refine WX.s1 rfl rfl ?_
      refine WX.icmp rfl (fun c_245 => ?_) (fun c_245 => ?_)
      · skip
        have n_245 : 256 ≤ ((ws).length + 1 + 1) := (nI_leI (a := 256) (b := (ws).length + 1 + 1) (by omega) (by omega)).mp c_245
        refine WX.s1 rfl rfl ?_
        exact WX.ret3 rfl (Or.inl rfl) (k0 (Or.inr ⟨_, e0, by omega⟩) h235n4 I235n4 A227n3 FR_h235n4 M_h235n4 FI_I235n4 FA_A227n3)
      · skip
        have n_245 : ((ws).length + 1 + 1) < 256 := Nat.lt_of_not_le (fun zz_ => c_245 ((nI_leI (a := 256) (b := (ws).length + 1 + 1) (by omega) (by omega)).mpr zz_))
        refine WX.s1 rfl rfl ?_
        refine WX.s1 rfl rfl ?_
        refine WX.ret3 rfl (Or.inr rfl) (k1 _ e0 (by omega) h235n4 I235n4 A227n3 FR_h235n4 M_h235n4 FI_I235n4 FA_A227n3 ⟨by rw [hl2]; exact K_I235n4_56, fun i hi => ?_⟩)
        rw [getD_app, e_A227n3, upA_same]
        by_cases z : i = (ws ++ [osF u o a]).length
        · rw [if_pos z, z, hwl, pk_us]
        · rw [if_neg z, pk_un (by omega)]; exact hw2 i (by omega)
set_option maxRecDepth 20000 in
theorem m_rdWt {d n s : Nat} {h : Nat → aE} {m : Nat} {I : Nat → Int32} {AR : Nat → Nat → Int32} {LN : Nat → Int64} {l : List Nat} {f e : Nat} (hm : m + 43 < n) (M_h : MAt h m I AR LN) (hF : InIs I AR l) (hl : ∀ i, (l).getD i 0 < 256) (hle : (l).length ≤ 8000) (he1 : 1 ≤ e) (he : e ≤ (l).length) (hfe : f ≤ e)  {Ψ : Option Value → aH → Prop} (k0 : (rdW l f e = none ∨ ∃ w2, rdW l f e = some w2 ∧ ¬ (w2).length < 256) → ∀ h' I' A', Fr h h' (inM m) → MAt h' m I' A' LN → Fi I I' (fun f => f = 56 ∨ f = 57 ∨ f = 60 ∨ f = 61) → FaS AR A' (fun b => (26 ≤ b ∧ b ≤ 30) ∨ b = 39) → Ψ (some (.int 0)) (n, s, h')) (k1 : ∀ w2, rdW l f e = some w2 → (w2).length < 256 → ∀ h' I' A', Fr h h' (inM m) → MAt h' m I' A' LN → Fi I I' (fun f => f = 56 ∨ f = 57 ∨ f = 60 ∨ f = 61) → FaS AR A' (fun b => (26 ≤ b ∧ b ≤ 30) ∨ b = 39) → WsM I' A' w2 → Ψ (some (.int 1)) (n, s, h')) : WO (mM (d + 3)) 218 [.ref m, .int (nI f), .int (nI e)] (n, s, h) Ψ := by
  refine WO.of (Nat.le_of_ble_eq_true rfl) ?_
  have FR_h : Fr h h (inM m) := Fr.rf
  have FI_I : Fi I I (fun f => f = 56 ∨ f = 57 ∨ f = 60 ∨ f = 61) := Fi.rf
  have FA_AR : FaS AR AR (fun b => (26 ≤ b ∧ b ≤ 30) ∨ b = 39) := FaS.rf
  have hhi := hl (e - 1)
  show WX (lk tX12_readWeights) (mM (d + 2)) Ψ 0 [(0, .ref m), (1, .int (nI f)), (2, .int (nI e))] [] (n, s, h)
  refine WX.s1 rfl rfl ?_
  refine WX.s1 rfl rfl ?_
  refine WX.s1 rfl rfl ?_
  refine WX.s1 (S' := [.int (8 * (nI f)), .ref m]) rfl rfl ?_
  rw [show (8 * (nI f)) = nI (8 * f) from (Int32.ofNat_mul 8 f).symm]
  refine WX.mput rfl hm M_h (rfl) (by decide) (fun _ => rfl) (fun h5n1 I5n1 e_I5n1 M_h5n1 frh5n1 => ?_)
  have FR_h5n1 := (FR_h).ztr frh5n1
  have FI_I5n1 : Fi I I5n1 (fun f => f = 56 ∨ f = 57 ∨ f = 60 ∨ f = 61) := (FI_I).zup e_I5n1 (by first | exact rfl | decide | omega)
  have K_I5n1_60 : I5n1 60 = (nI (8 * f)) := by rw [e_I5n1]; exact pk_us
  clear M_h FR_h FI_I e_I5n1 frh5n1 
  refine WX.s1 rfl rfl ?_
  refine WX.s1 rfl rfl ?_
  refine WX.s1 rfl rfl ?_
  refine WX.s1 (S' := [.int (8 * (nI e)), .ref m]) rfl rfl ?_
  rw [show (8 * (nI e)) = nI (8 * e) from (Int32.ofNat_mul 8 e).symm]
  refine WX.mput rfl hm M_h5n1 (rfl) (by decide) (fun _ => rfl) (fun h13n2 I13n2 e_I13n2 M_h13n2 frh13n2 => ?_)
  have FR_h13n2 := (FR_h5n1).ztr frh13n2
  have FI_I13n2 : Fi I I13n2 (fun f => f = 56 ∨ f = 57 ∨ f = 60 ∨ f = 61) := (FI_I5n1).zup e_I13n2 (by first | exact rfl | decide | omega)
  have K_I13n2_60 : I13n2 60 = (nI (8 * f)) := by rw [e_I13n2]; exact (pk_un (by decide)).trans K_I5n1_60
  have K_I13n2_61 : I13n2 61 = (nI (8 * e)) := by rw [e_I13n2]; exact pk_us
  clear M_h5n1 FR_h5n1 FI_I5n1 e_I13n2 frh13n2 K_I5n1_60
  refine WX.s1 rfl rfl ?_
  refine WX.s1 rfl rfl ?_
  refine WX.s1 rfl rfl ?_
  refine WX.s1 rfl rfl ?_
  have hF2 : InIs I13n2 AR l := ⟨(FI_I13n2 1 (by decide)).trans hF.1, hF.2⟩
  refine WX.callC (vs := [.ref m, .int (nI 6), .int (nI 11)]) rfl rfl rfl (Nat.le_of_ble_eq_true rfl) ((M_h13n2).rcv hm) ?_
  refine m_rdSh (d := d) (G := 6) (la := 11) hm M_h13n2 hF2 hl hle (by omega) (by decide) (by omega) (by decide) K_I13n2_60 K_I13n2_61 (fun zr h7 I7 A7 fr7 M_h7 fi7 fa7 => ?_) (fun o u c zr h7 I7 A7 fr7 M_h7 fi7 fa7 K_I7_60 T7 => ?_)
  · skip
    have FR_h7 := (FR_h13n2).ztr fr7
    have FI_I7 : Fi I I7 (fun f => f = 56 ∨ f = 57 ∨ f = 60 ∨ f = 61) := (FI_I13n2).zsub fi7 (fun j hj => by omega)
    have FA_A7 : FaS AR A7 (fun b => (26 ≤ b ∧ b ≤ 30) ∨ b = 39) := (fa7).mono (fun j hj => by omega)
    show WX _ _ _ 25 [(0, .ref m), (1, .int (nI f)), (2, .int (nI e))] [.int (-1), .ref m] (n, s, h7)
    refine WX.mput rfl hm M_h7 (rfl) (by decide) (fun _ => rfl) (fun h25n3 I25n3 e_I25n3 M_h25n3 frh25n3 => ?_)
    have FR_h25n3 := (FR_h7).ztr frh25n3
    have FI_I25n3 : Fi I I25n3 (fun f => f = 56 ∨ f = 57 ∨ f = 60 ∨ f = 61) := (FI_I7).zup e_I25n3 (by first | exact rfl | decide | omega)
    have K_I25n3_57 : I25n3 57 = (-1) := by rw [e_I25n3]; exact pk_us
    clear M_h7 FR_h7 FI_I7 e_I25n3 frh25n3 
    refine WX.s1 rfl rfl ?_
    refine WX.mgetK (x := (-1)) rfl hm M_h25n3 rfl K_I25n3_57 ?_
    refine WX.if_ rfl (fun c_32 => ?_) (fun c_32 => absurd (by decide) c_32)
    clear c_32
    refine WX.s1 rfl rfl ?_
    exact WX.ret3 rfl (Or.inl rfl) (k0 (Or.inl (rdW_n zr)) h25n3 I25n3 A7 FR_h25n3 M_h25n3 FI_I25n3 FA_A7)
  · skip
    have FR_h7 := (FR_h13n2).ztr fr7
    have FI_I7 : Fi I I7 (fun f => f = 56 ∨ f = 57 ∨ f = 60 ∨ f = 61) := (FI_I13n2).zsub fi7 (fun j hj => by omega)
    have FA_A7 : FaS AR A7 (fun b => (26 ≤ b ∧ b ≤ 30) ∨ b = 39) := (fa7).mono (fun j hj => by omega)
    have K_I7_61 : I7 61 = (nI (8 * e)) := (fi7 61 (by decide)).trans K_I13n2_61
    obtain ⟨v1, v2, v3, v4, v5, v6⟩ := rdS_ok (by decide) zr
    have hbg : ((c + 7) / 8) ≤ e := by omega
    obtain ⟨hS6, -, -⟩ := pad12 v1 (by omega) v3 v4
    show WX _ _ _ 25 [(0, .ref m), (1, .int (nI f)), (2, .int (nI e))] [.int (nI o), .ref m] (n, s, h7)
    refine WX.mput rfl hm M_h7 (rfl) (by decide) (fun _ => rfl) (fun h25n4 I25n4 e_I25n4 M_h25n4 frh25n4 => ?_)
    have FR_h25n4 := (FR_h7).ztr frh25n4
    have FI_I25n4 : Fi I I25n4 (fun f => f = 56 ∨ f = 57 ∨ f = 60 ∨ f = 61) := (FI_I7).zup e_I25n4 (by first | exact rfl | decide | omega)
    have K_I25n4_60 : I25n4 60 = (nI (8 * ((c + 7) / 8))) := by rw [e_I25n4]; exact (pk_un (by decide)).trans K_I7_60
    have K_I25n4_61 : I25n4 61 = (nI (8 * e)) := by rw [e_I25n4]; exact (pk_un (by decide)).trans K_I7_61
    have K_I25n4_57 : I25n4 57 = (nI o) := by rw [e_I25n4]; exact pk_us
    clear M_h7 FR_h7 FI_I7 e_I25n4 frh25n4 K_I7_60 K_I7_61
    refine WX.s1 rfl rfl ?_
    refine WX.mgetK (x := (nI o)) rfl hm M_h25n4 rfl K_I25n4_57 ?_
    refine WX.if_ rfl (fun c_32 => absurd c_32 (fun zz_ => absurd ((nI_ltI (a := o) (b := 0) (by omega) (by omega)).mp zz_) (Nat.not_lt.mpr (by omega)))) (fun c_32 => ?_)
    clear c_32
    refine WX.s1 rfl rfl ?_
    refine WX.mgetK (x := (nI (8 * ((c + 7) / 8)))) rfl hm M_h25n4 rfl K_I25n4_60 ?_
    refine WX.s1 rfl rfl ?_
    refine WX.mgetK (x := (nI (8 * e))) rfl hm M_h25n4 rfl K_I25n4_61 ?_
    refine WX.icmp rfl (fun c_43 => ?_) (fun c_43 => ?_)
    · skip
      have n_43 : (8 * e) ≤ (8 * ((c + 7) / 8)) := (nI_leI (a := 8 * e) (b := 8 * ((c + 7) / 8)) (by omega) (by omega)).mp c_43
      refine WX.s1 rfl rfl ?_
      exact WX.ret3 rfl (Or.inl rfl) (k0 (Or.inl ((rdW_s zr).trans (by rw [if_pos (by omega)]))) h25n4 I25n4 A7 FR_h25n4 M_h25n4 FI_I25n4 FA_A7)
    · skip
      have n_43 : (8 * ((c + 7) / 8)) < (8 * e) := Nat.lt_of_not_le (fun zz_ => c_43 ((nI_leI (a := 8 * e) (b := 8 * ((c + 7) / 8)) (by omega) (by omega)).mpr zz_))
      refine WX.s1 rfl rfl ?_
      refine WX.mget rfl hm M_h25n4 rfl ?_
      refine WX.s1 rfl rfl ?_
      refine WX.s1 rfl rfl ?_
      refine WX.s1 (S' := [.int ((nI e) - 1), .ref (m + 1)]) rfl rfl ?_
      rw [show nI e - 1 = nI (e - 1) from nI_pm1 he1]
      refine WX.mald (c := 1) rfl hm M_h25n4 (by decide) (by decide) (by decide) (by decide) (vp_in_nI (N := 8000) (by omega) (by decide)) ?_
      rw [nI_clamp (by omega), FA_A7 1 (by decide), hF.2 (e - 1) (by omega)]
      refine WX.if_ rfl (fun c_54 => ?_) (fun c_54 => ?_)
      · skip
        have n_54 : ¬ ((l).getD (e - 1) 0) = 0 := fun zz_ => c_54 ((nI_eq (a := (l).getD (e - 1) 0) (b := 0) (by omega) (by omega)).mpr zz_)
        refine WX.s1 rfl rfl ?_
        refine WX.s1 rfl rfl ?_
        refine WX.mget rfl hm M_h25n4 rfl ?_
        refine WX.s1 rfl rfl ?_
        refine WX.s1 rfl rfl ?_
        refine WX.s1 rfl rfl ?_
        refine WX.mgetK (x := (nI o)) rfl hm M_h25n4 rfl K_I25n4_57 ?_
        refine WX.s1 rfl rfl ?_
        refine WX.callC (vs := [.ref m, .ref (m + 30), .int (nI 0), .int 64, .int (nI o), .int (nI 1536)]) rfl rfl rfl (Nat.le_of_ble_eq_true rfl) ((M_h25n4).rcv hm) ?_
        have hp6 : 2 ^ o ≤ 2 ^ 6 := Nat.pow_le_pow_right (by decide) (by omega)
        refine m_lay30 (d := d) (f := 0) (T := 1536) hm M_h25n4 (by decide) (Or.inr v1) (by omega) (by omega) (fun s hs => by rw [Nat.zero_add]; exact T7 s hs) hS6 (fun h8 A8 fr8 M_h8 fa8 P8 ft8 => ?_)
        have FR_h8 := (FR_h25n4).ztr fr8
        have FA_A8 : FaS AR A8 (fun b => (26 ≤ b ∧ b ≤ 30) ∨ b = 39) := (FA_A7).ztr ((fa8).mono (fun j hj => by omega))
        show WX _ _ _ 77 [(0, .ref m), (1, .int (nI f)), (2, .int (nI e))] [] (n, s, h8)
        refine WX.s1 rfl rfl ?_
        refine WX.s1 rfl rfl ?_
        refine WX.s1 rfl rfl ?_
        refine WX.s1 rfl rfl ?_
        refine WX.s1 (S' := [.int ((nI e) - 1), .int 8, .ref m]) rfl rfl ?_
        rw [show nI e - 1 = nI (e - 1) from nI_pm1 he1]
        refine WX.s1 (S' := [.int (8 * (nI (e - 1))), .ref m]) rfl rfl ?_
        rw [show (8 * (nI (e - 1))) = nI (8 * (e - 1)) from (Int32.ofNat_mul 8 (e - 1)).symm]
        refine WX.s1 rfl rfl ?_
        refine WX.mget rfl hm M_h8 rfl ?_
        refine WX.s1 rfl rfl ?_
        refine WX.s1 rfl rfl ?_
        refine WX.s1 (S' := [.int ((nI e) - 1), .ref (m + 1), .int (nI (8 * (e - 1))), .ref m]) rfl rfl ?_
        rw [show nI e - 1 = nI (e - 1) from nI_pm1 he1]
        refine WX.mald (c := 1) rfl hm M_h8 (by decide) (by decide) (by decide) (by decide) (vp_in_nI (N := 8000) (by omega) (by decide)) ?_
        rw [nI_clamp (by omega), FA_A8 1 (by decide), hF.2 (e - 1) (by omega)]
        refine WX.callC (vs := [.int (nI ((l).getD (e - 1) 0))]) rfl rfl rfl (Nat.le_of_ble_eq_true rfl) rfl ?_
        refine m_log (d := d + 1) (by omega) (by omega) (fun g hg1 hg2 => ?_)
        obtain rfl := lg2_uq (by omega) hg1 hg2
        have hlg : Nat.log2 ((l).getD (e - 1) 0) ≤ 7 := by
          apply Classical.byContradiction
          intro z
          have := Nat.pow_le_pow_right (show 0 < 2 by decide) (show 8 ≤ Nat.log2 ((l).getD (e - 1) 0) by omega)
          omega
        have hEE : (hiE l e) = 8 * (e - 1) + Nat.log2 ((l).getD (e - 1) 0) := rfl
        show WX _ _ _ 95 [(0, .ref m), (1, .int (nI f)), (2, .int (nI e))] [.int (nI (Nat.log2 ((l).getD (e - 1) 0))), .int (nI (8 * (e - 1))), .ref m] (n, s, h8)
        refine WX.s1 (S' := [.int ((nI (8 * (e - 1))) + (nI (Nat.log2 ((l).getD (e - 1) 0)))), .ref m]) rfl rfl ?_
        rw [nI_add, ← hEE]
        refine WX.mput rfl hm M_h8 (rfl) (by decide) (fun _ => rfl) (fun h96n5 I96n5 e_I96n5 M_h96n5 frh96n5 => ?_)
        have FR_h96n5 := (FR_h8).ztr frh96n5
        have FI_I96n5 : Fi I I96n5 (fun f => f = 56 ∨ f = 57 ∨ f = 60 ∨ f = 61) := (FI_I25n4).zup e_I96n5 (by first | exact rfl | decide | omega)
        have K_I96n5_60 : I96n5 60 = (nI (8 * ((c + 7) / 8))) := by rw [e_I96n5]; exact (pk_un (by decide)).trans K_I25n4_60
        have K_I96n5_57 : I96n5 57 = (nI o) := by rw [e_I96n5]; exact (pk_un (by decide)).trans K_I25n4_57
        have K_I96n5_61 : I96n5 61 = (nI (hiE l e)) := by rw [e_I96n5]; exact pk_us
        clear M_h8 FR_h8 FI_I25n4 e_I96n5 frh96n5 K_I25n4_60 K_I25n4_61 K_I25n4_57
        refine WX.s1 rfl rfl ?_
        refine WX.mgetK (x := (nI (hiE l e))) rfl hm M_h96n5 rfl K_I96n5_61 ?_
        refine WX.s1 rfl rfl ?_
        refine WX.mgetK (x := (nI (8 * ((c + 7) / 8)))) rfl hm M_h96n5 rfl K_I96n5_60 ?_
        refine WX.s1 (S' := [.int ((nI (hiE l e)) - (nI (8 * ((c + 7) / 8))))]) rfl rfl ?_
        rw [nI_subN (show 8 * ((c + 7) / 8) ≤ (hiE l e) by omega)]
        refine WX.s1 rfl rfl ?_
        refine WX.s1 rfl rfl ?_
        refine WX.mgetK (x := (nI o)) rfl hm M_h96n5 rfl K_I96n5_57 ?_
        refine WX.s1 (S' := [.int (2 * (nI o)), .int (nI ((hiE l e) - 8 * ((c + 7) / 8)))]) rfl rfl ?_
        rw [show (2 * (nI o)) = nI (2 * o) from (Int32.ofNat_mul 2 o).symm]
        refine WX.icmp rfl (fun c_114 => ?_) (fun c_114 => ?_)
        · skip
          have n_114 : (2 * o) ≤ ((hiE l e) - 8 * ((c + 7) / 8)) := (nI_leI (a := 2 * o) (b := (hiE l e) - 8 * ((c + 7) / 8)) (by omega) (by omega)).mp c_114
          refine WX.s1 rfl rfl ?_
          refine WX.s1 rfl rfl ?_
          refine WX.mgetK (x := (nI o)) rfl hm M_h96n5 rfl K_I96n5_57 ?_
          have hFa : InIs I96n5 A8 l := ⟨(FI_I96n5 1 (by decide)).trans hF.1, by rw [FA_A8 1 (by decide)]; exact hF.2⟩
          refine WX.callC (vs := [.ref m, .int (nI o)]) rfl rfl rfl (Nat.le_of_ble_eq_true rfl) ((M_h96n5).rcv hm) ?_
          refine m_takeD (d := d + 1) (E := (hiE l e)) (c := o) hm M_h96n5 hFa hl hle (by omega) (by omega) (by omega) K_I96n5_61 (fun ha Ia fra M_ha fia K_Ia_61 => ?_)
          have FR_ha := (FR_h96n5).ztr fra
          have FI_Ia : Fi I Ia (fun f => f = 56 ∨ f = 57 ∨ f = 60 ∨ f = 61) := (FI_I96n5).zsub fia (fun j hj => by omega)
          have K_Ia_60 : Ia 60 = (nI (8 * ((c + 7) / 8))) := (fia 60 (by decide)).trans K_I96n5_60
          have K_Ia_57 : Ia 57 = (nI o) := (fia 57 (by decide)).trans K_I96n5_57
          show WX _ _ _ 127 [(0, .ref m), (1, .int (nI f)), (2, .int (nI e))] [.int (nI (rbN l ((hiE l e) - o) o))] (n, s, ha)
          refine WX.s1 (L' := [(0, .ref m), (1, .int (nI f)), (2, .int (nI e)), (3, .int (nI (rbN l ((hiE l e) - o) o)))]) rfl rfl ?_
          refine WX.s1 rfl rfl ?_
          refine WX.s1 rfl rfl ?_
          refine WX.mgetK (x := (nI o)) rfl hm M_ha rfl K_Ia_57 ?_
          have hFb : InIs Ia A8 l := ⟨(FI_Ia 1 (by decide)).trans hF.1, by rw [FA_A8 1 (by decide)]; exact hF.2⟩
          refine WX.callC (vs := [.ref m, .int (nI o)]) rfl rfl rfl (Nat.le_of_ble_eq_true rfl) ((M_ha).rcv hm) ?_
          refine m_takeD (d := d + 1) (E := ((hiE l e) - o)) (c := o) hm M_ha hFb hl hle (by omega) (by omega) (by omega) K_Ia_61 (fun hb Ib frb M_hb fib K_Ib_61 => ?_)
          have FR_hb := (FR_ha).ztr frb
          have FI_Ib : Fi I Ib (fun f => f = 56 ∨ f = 57 ∨ f = 60 ∨ f = 61) := (FI_Ia).zsub fib (fun j hj => by omega)
          rw [show (hiE l e) - o - o = (hiE l e) - 2 * o by omega] at K_Ib_61
          rw [show (hiE l e) - o - o = (hiE l e) - 2 * o by omega]
          have K_Ib_60 : Ib 60 = (nI (8 * ((c + 7) / 8))) := (fib 60 (by decide)).trans K_Ia_60
          have K_Ib_57 : Ib 57 = (nI o) := (fib 57 (by decide)).trans K_Ia_57
          show WX _ _ _ 136 [(0, .ref m), (1, .int (nI f)), (2, .int (nI e)), (3, .int (nI (rbN l ((hiE l e) - o) o)))] [.int (nI (rbN l ((hiE l e) - 2 * o) o))] (n, s, hb)
          refine WX.s1 (L' := [(0, .ref m), (1, .int (nI f)), (2, .int (nI e)), (3, .int (nI (rbN l ((hiE l e) - o) o))), (4, .int (nI (rbN l ((hiE l e) - 2 * o) o)))]) rfl rfl ?_
          refine WX.s1 rfl rfl ?_
          refine WX.s1 rfl rfl ?_
          refine WX.mput rfl hm M_hb (rfl) (by decide) (fun _ => rfl) (fun h140n6 I140n6 e_I140n6 M_h140n6 frh140n6 => ?_)
          have FR_h140n6 := (FR_hb).ztr frh140n6
          have FI_I140n6 : Fi I I140n6 (fun f => f = 56 ∨ f = 57 ∨ f = 60 ∨ f = 61) := (FI_Ib).zup e_I140n6 (by first | exact rfl | decide | omega)
          have K_I140n6_60 : I140n6 60 = (nI (8 * ((c + 7) / 8))) := by rw [e_I140n6]; exact (pk_un (by decide)).trans K_Ib_60
          have K_I140n6_57 : I140n6 57 = (nI o) := by rw [e_I140n6]; exact (pk_un (by decide)).trans K_Ib_57
          have K_I140n6_61 : I140n6 61 = (nI ((hiE l e) - 2 * o)) := by rw [e_I140n6]; exact (pk_un (by decide)).trans K_Ib_61
          have K_I140n6_56 : I140n6 56 = 0 := by rw [e_I140n6]; exact pk_us
          clear M_hb FR_hb FI_Ib e_I140n6 frh140n6 K_Ib_60 K_Ib_57 K_Ib_61
          have eW : rdW l f e = _ := (rdW_s zr).trans (by rw [if_neg (by omega), if_neg (by omega)])
          refine WX.keep (y := 218) [0, 3, 4] (show ([0, 1, 2, 3, 4] : List Nat).Nodup by decide) rfl ?_
          exact m_rsL (d := d + 1) (u := u) (ws := []) 255 hm M_h140n6 ⟨(FI_I140n6 1 (by decide)).trans hF.1, by rw [FA_A8 1 (by decide)]; exact hF.2⟩ hl hle v1 (by omega) hS6 P8 (by omega) (by omega) (rb_lt l _ o) (rb_lt l _ o) rfl ⟨K_I140n6_56, fun i hi => absurd hi (Nat.not_lt_zero i)⟩ K_I140n6_60 K_I140n6_61 (fun z h9 I9 A9 f9 M9 i9 a9 => k0 (by rw [eW]; exact z) h9 I9 A9 ((FR_h140n6).ztr f9) M9 ((FI_I140n6).ztr i9) ((FA_A8).ztr a9)) (fun w2 z z2 h9 I9 A9 f9 M9 i9 a9 => k1 w2 ((eW).trans z) z2 h9 I9 A9 ((FR_h140n6).ztr f9) M9 ((FI_I140n6).ztr i9) ((FA_A8).ztr a9))
        · skip
          have n_114 : ((hiE l e) - 8 * ((c + 7) / 8)) < (2 * o) := Nat.lt_of_not_le (fun zz_ => c_114 ((nI_leI (a := 2 * o) (b := (hiE l e) - 8 * ((c + 7) / 8)) (by omega) (by omega)).mpr zz_))
          refine WX.s1 rfl rfl ?_
          exact WX.ret3 rfl (Or.inl rfl) (k0 (Or.inl ((rdW_s zr).trans (by rw [if_neg (by omega), if_pos (by omega)]))) h96n5 I96n5 A8 FR_h96n5 M_h96n5 FI_I96n5 FA_A8)
      · skip
        have n_54 : ((l).getD (e - 1) 0) = 0 := (nI_eq (a := (l).getD (e - 1) 0) (b := 0) (by omega) (by omega)).mp (Classical.not_not.mp c_54)
        refine WX.s1 rfl rfl ?_
        exact WX.ret3 rfl (Or.inl rfl) (k0 (Or.inl ((rdW_s zr).trans (by rw [if_pos (by omega)]))) h25n4 I25n4 A7 FR_h25n4 M_h25n4 FI_I25n4 FA_A7)
