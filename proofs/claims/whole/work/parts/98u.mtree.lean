/-! the reference: leastKnot, tree, lengthsByCounts -/
theorem nI_qI {i b : Nat} (hi : i < 2 ^ 30) (hb : b < 2 ^ 30) : nI i = qI b ↔ i + 1 = b := by
  by_cases z : b = 0
  · rw [z]
    exact ⟨fun h => absurd h (nI_m1ne (by omega)), fun h => absurd h (by omega)⟩
  · obtain ⟨y, rfl⟩ : ∃ y, b = y + 1 := ⟨b - 1, by omega⟩
    rw [qIs, nI_eq (by omega) (by omega)]
    omega
def KnM (A : Nat → Nat → Int32) (x : TS) : Prop := ∀ k, k < x.1 → A 35 k = nI (x.2.1 k) ∧ A 36 k = qI (x.2.2 k)
theorem tK_bd {c : Nat → Nat} {j : Nat} (hc : sumN c 256 ≤ 8000) : ∀ k, k < (tN c j).1 → (tN c j).2.1 k ≤ 8000 ∧ (tN c j).2.2 k ≤ (tN c j).1 := fun k hk => by
  obtain ⟨lp, T⟩ := ti_N c j
  refine ⟨Nat.le_trans (ti_le T k hk) hc, ?_⟩
  by_cases z : (tN c j).2.2 k = 0
  · omega
  · exact (T.2.2.1 k z).2.1
set_option maxRecDepth 20000 in
theorem m_least {d n s : Nat} {h : Nat → aE} {m : Nat} {I : Nat → Int32} {AR : Nat → Nat → Int32} {LN : Nat → Int64} {x : TS} {but : Nat} (hm : m + 43 < n) (M_h : MAt h m I AR LN) (hK : KnM AR x) (hx : x.1 ≤ 512) (hb : but < 2 ^ 30) (hbd : ∀ k, k < x.1 → x.2.1 k ≤ 8000 ∧ x.2.2 k ≤ x.1) (K_I_52 : I 52 = (nI x.1)) {Ψ : Option Value → aH → Prop} (kk : Ψ (some (.int (qI (lsK x.2.1 x.2.2 but x.1)))) (n, s, h)) : WO (mM (d + 1)) 176 [.ref m, .int (qI but)] (n, s, h) Ψ := by
  refine WO.of (Nat.le_of_ble_eq_true rfl) ?_
  have FR_h : Fr h h (inM m) := Fr.rf
  have FI_I : Fi I I (fun f => f = 40) := Fi.rf
  show WX (lk tX12_leastKnot) (mM d) Ψ 0 [(0, .ref m), (1, .int (qI but))] [] (n, s, h)
  refine WX.s1 rfl rfl ?_
  refine WX.s1 (L' := [(0, .ref m), (1, .int (qI but)), (2, .int (-1))]) rfl rfl ?_
  refine WX.s1 rfl rfl ?_
  refine WX.s1 (L' := [(0, .ref m), (1, .int (qI but)), (2, .int (-1)), (3, .int 0)]) rfl rfl ?_
  have lp : ∀ (t i : Nat), i + t = x.1 → WX (lk tX12_leastKnot) (mM d) Ψ 4 [(0, .ref m), (1, .int (qI but)), (2, .int (qI (lsK x.2.1 x.2.2 but i))), (3, .int (nI i))] [] (n, s, h) := by
    intro t
    induction t with
    | zero =>
      intro i hi
      obtain rfl : i = x.1 := by omega
      refine WX.s1 rfl rfl ?_
      refine WX.s1 rfl rfl ?_
      refine WX.mgetK (x := (nI x.1)) rfl hm M_h rfl K_I_52 ?_
      refine WX.icmp rfl (fun c_9 => ?_) (fun c_9 => absurd ((nI_leI (a := x.1) (b := x.1) (by omega) (by omega)).mpr (by omega)) c_9)
      clear c_9
      refine WX.s1 rfl rfl ?_
      exact WX.ret1 rfl kk
    | succ t ih =>
      intro i hi
      obtain ⟨k1, k2⟩ := hK i (by omega)
      obtain ⟨b1, b2⟩ := hbd i (by omega)
      have hls : (lsK x.2.1 x.2.2 but (i + 1)) = if frK x.2.1 x.2.2 but i ∧ ((lsK x.2.1 x.2.2 but i) = 0 ∨ x.2.1 i < x.2.1 ((lsK x.2.1 x.2.2 but i) - 1)) then i + 1 else (lsK x.2.1 x.2.2 but i) := rfl
      refine WX.s1 rfl rfl ?_
      refine WX.s1 rfl rfl ?_
      refine WX.mgetK (x := (nI x.1)) rfl hm M_h rfl K_I_52 ?_
      refine WX.icmp rfl (fun c_9 => absurd c_9 (fun zz_ => absurd ((nI_leI (a := x.1) (b := i) (by omega) (by omega)).mp zz_) (Nat.not_le.mpr (by omega)))) (fun c_9 => ?_)
      clear c_9
      refine WX.s1 rfl rfl ?_
      refine WX.s1 rfl rfl ?_
      refine WX.icmp rfl (fun c_14 => ?_) (fun c_14 => ?_)
      · skip
        refine WX.s1 (L' := [(0, .ref m), (1, .int (qI but)), (2, .int (qI (lsK x.2.1 x.2.2 but i))), (3, .int ((nI i) + 1))]) rfl rfl ?_
        rw [show ((nI i) + 1) = nI (i + 1) from nI_add i 1]
        refine WX.s1 rfl rfl ?_
        have e9 : (lsK x.2.1 x.2.2 but (i + 1)) = (lsK x.2.1 x.2.2 but i) := by rw [hls]; exact if_neg (fun z => z.1.1 ((nI_qI (by omega) hb).mp c_14))
        have h9 := ih (i + 1) (by omega)
        rw [e9] at h9
        exact h9
      · skip
        refine WX.s1 rfl rfl ?_
        refine WX.mget rfl hm M_h rfl ?_
        refine WX.s1 rfl rfl ?_
        refine WX.mald (c := 35) rfl hm M_h (by decide) (by decide) (by decide) (by decide) (vp_in_nI (N := 512) (by omega) (by decide)) ?_
        rw [nI_clamp (by omega), k1]
        refine WX.if_ rfl (fun c_23 => ?_) (fun c_23 => ?_)
        · skip
          have n_23 : (x.2.1 i) ≤ 0 := (nI_leI (a := x.2.1 i) (b := 0) (by omega) (by omega)).mp c_23
          refine WX.s1 (L' := [(0, .ref m), (1, .int (qI but)), (2, .int (qI (lsK x.2.1 x.2.2 but i))), (3, .int ((nI i) + 1))]) rfl rfl ?_
          rw [show ((nI i) + 1) = nI (i + 1) from nI_add i 1]
          refine WX.s1 rfl rfl ?_
          have e9 : (lsK x.2.1 x.2.2 but (i + 1)) = (lsK x.2.1 x.2.2 but i) := by rw [hls]; exact if_neg (fun z => z.1.2.1 (by omega))
          have h9 := ih (i + 1) (by omega)
          rw [e9] at h9
          exact h9
        · skip
          have n_23 : 0 < (x.2.1 i) := Nat.lt_of_not_le (fun zz_ => c_23 ((nI_leI (a := x.2.1 i) (b := 0) (by omega) (by omega)).mpr zz_))
          refine WX.s1 rfl rfl ?_
          refine WX.mget rfl hm M_h rfl ?_
          refine WX.s1 rfl rfl ?_
          refine WX.mald (c := 36) rfl hm M_h (by decide) (by decide) (by decide) (by decide) (vp_in_nI (N := 512) (by omega) (by decide)) ?_
          rw [nI_clamp (by omega), k2]
          by_cases p0 : x.2.2 i = 0
          · rw [p0, qI0]
            refine WX.if_ rfl (fun c_32 => absurd c_32 (by decide)) (fun c_32 => ?_)
            refine WX.s1 rfl rfl ?_
            by_cases b0 : (lsK x.2.1 x.2.2 but i) = 0
            · rw [b0, qI0]
              refine WX.if_ rfl (fun c_36 => ?_) (fun c_36 => absurd (by decide) c_36)
              refine WX.s1 rfl rfl ?_
              refine WX.s1 (L' := [(0, .ref m), (1, .int (qI but)), (2, .int (nI i)), (3, .int (nI i))]) rfl rfl ?_
              refine WX.s1 (L' := [(0, .ref m), (1, .int (qI but)), (2, .int (nI i)), (3, .int ((nI i) + 1))]) rfl rfl ?_
              rw [show ((nI i) + 1) = nI (i + 1) from nI_add i 1]
              refine WX.s1 rfl rfl ?_
              have e9 : (lsK x.2.1 x.2.2 but (i + 1)) = i + 1 := by rw [hls]; exact if_pos ⟨⟨fun z => c_14 ((nI_qI (by omega) hb).mpr z), by omega, p0⟩, Or.inl b0⟩
              have h9 := ih (i + 1) (by omega)
              rw [e9, qIs] at h9
              exact h9
            · obtain ⟨b, hb__⟩ : ∃ z, (lsK x.2.1 x.2.2 but i) = z + 1 := ⟨(lsK x.2.1 x.2.2 but i) - 1, by omega⟩
              rw [hb__, qIs]
              have hbk : b + 1 ≤ i := by rcases lsK_is x.2.1 x.2.2 but i with ⟨z, -⟩ | ⟨-, z, -⟩ <;> omega
              have bb := (hbd b (by omega)).1
              refine WX.if_ rfl (fun c_36 => absurd c_36 (fun zz_ => absurd ((nI_ltI (a := b) (b := 0) (by omega) (by omega)).mp zz_) (Nat.not_lt.mpr (by omega)))) (fun c_36 => ?_)
              clear c_36
              refine WX.s1 rfl rfl ?_
              refine WX.mget rfl hm M_h rfl ?_
              refine WX.s1 rfl rfl ?_
              refine WX.mald (c := 35) rfl hm M_h (by decide) (by decide) (by decide) (by decide) (vp_in_nI (N := 512) (by omega) (by decide)) ?_
              rw [nI_clamp (by omega), k1]
              refine WX.s1 rfl rfl ?_
              refine WX.mget rfl hm M_h rfl ?_
              refine WX.s1 rfl rfl ?_
              refine WX.mald (c := 35) rfl hm M_h (by decide) (by decide) (by decide) (by decide) (vp_in_nI (N := 512) (by omega) (by decide)) ?_
              rw [nI_clamp (by omega), (hK b (by omega)).1]
              refine WX.icmp rfl (fun c_51 => ?_) (fun c_51 => ?_)
              · skip
                have n_51 : (x.2.1 b) ≤ (x.2.1 i) := (nI_leI (a := x.2.1 b) (b := x.2.1 i) (by omega) (by omega)).mp c_51
                refine WX.s1 (L' := [(0, .ref m), (1, .int (qI but)), (2, .int (nI b)), (3, .int ((nI i) + 1))]) rfl rfl ?_
                rw [show ((nI i) + 1) = nI (i + 1) from nI_add i 1]
                refine WX.s1 rfl rfl ?_
                have e9 : (lsK x.2.1 x.2.2 but (i + 1)) = (lsK x.2.1 x.2.2 but i) := by rw [hls]; exact if_neg (fun z => by rcases z.2 with y | y; exact b0 y; rw [hb__, Nat.add_sub_cancel] at y; omega)
                have h9 := ih (i + 1) (by omega)
                rw [e9] at h9
                rw [hb__, qIs] at h9
                exact h9
              · skip
                have n_51 : (x.2.1 i) < (x.2.1 b) := Nat.lt_of_not_le (fun zz_ => c_51 ((nI_leI (a := x.2.1 b) (b := x.2.1 i) (by omega) (by omega)).mpr zz_))
                refine WX.s1 rfl rfl ?_
                refine WX.s1 (L' := [(0, .ref m), (1, .int (qI but)), (2, .int (nI i)), (3, .int (nI i))]) rfl rfl ?_
                refine WX.s1 (L' := [(0, .ref m), (1, .int (qI but)), (2, .int (nI i)), (3, .int ((nI i) + 1))]) rfl rfl ?_
                rw [show ((nI i) + 1) = nI (i + 1) from nI_add i 1]
                refine WX.s1 rfl rfl ?_
                have e9 : (lsK x.2.1 x.2.2 but (i + 1)) = i + 1 := by rw [hls]; exact if_pos ⟨⟨fun z => c_14 ((nI_qI (by omega) hb).mpr z), by omega, p0⟩, Or.inr (by rw [hb__, Nat.add_sub_cancel]; exact n_51)⟩
                have h9 := ih (i + 1) (by omega)
                rw [e9, qIs] at h9
                exact h9
          · obtain ⟨p, hp⟩ : ∃ z, x.2.2 i = z + 1 := ⟨x.2.2 i - 1, by omega⟩
            rw [hp, qIs]
            refine WX.if_ rfl (fun c_32 => ?_) (fun c_32 => absurd ((nI_leI (a := 0) (b := p) (by omega) (by omega)).mpr (by omega)) c_32)
            clear c_32
            refine WX.s1 (L' := [(0, .ref m), (1, .int (qI but)), (2, .int (qI (lsK x.2.1 x.2.2 but i))), (3, .int ((nI i) + 1))]) rfl rfl ?_
            rw [show ((nI i) + 1) = nI (i + 1) from nI_add i 1]
            refine WX.s1 rfl rfl ?_
            have e9 : (lsK x.2.1 x.2.2 but (i + 1)) = (lsK x.2.1 x.2.2 but i) := by rw [hls]; exact if_neg (fun z => by have := z.1.2.2; omega)
            have h9 := ih (i + 1) (by omega)
            rw [e9] at h9
            exact h9
  exact lp x.1 0 (by omega)
set_option maxRecDepth 20000 in
theorem m_tree {d n s : Nat} {h : Nat → aE} {m : Nat} {I : Nat → Int32} {AR : Nat → Nat → Int32} {LN : Nat → Int64} {c : Nat → Nat} (hm : m + 43 < n) (M_h : MAt h m I AR LN) (hh : ∀ s, s < 256 → AR 34 s = nI (c s)) (hc : sumN c 256 ≤ 8000)  {Ψ : Option Value → aH → Prop} (kk : ∀ h' I' A', Fr h h' (inM m) → MAt h' m I' A' LN → Fi I I' (fun f => f = 52) → FaS AR A' (fun b => b = 35 ∨ b = 36 ∨ b = 37) → (∀ s, s < 256 → A' 37 s = nI (dF c s)) → Ψ (some (.int (nI (topF c)))) (n, s, h')) : WO (mM (d + 2)) 177 [.ref m] (n, s, h) Ψ := by
  refine WO.of (Nat.le_of_ble_eq_true rfl) ?_
  have FR_h : Fr h h (inM m) := Fr.rf
  have FI_I : Fi I I (fun f => f = 52) := Fi.rf
  have FA_AR : FaS AR AR (fun b => b = 35 ∨ b = 36 ∨ b = 37) := FaS.rf
  have hcs : ∀ s, s < 256 → c s ≤ 8000 := fun s hs => Nat.le_trans (sumN_get c hs) hc
  show WX (lk tX12_tree) (mM (d + 1)) Ψ 0 [(0, .ref m)] [] (n, s, h)
  refine WX.s1 rfl rfl ?_
  refine WX.s1 rfl rfl ?_
  refine WX.mput rfl hm M_h (rfl) (by decide) (fun _ => rfl) (fun h4n1 I4n1 e_I4n1 M_h4n1 frh4n1 => ?_)
  have FR_h4n1 := FR_h.ztr frh4n1
  have FI_I4n1 : Fi I I4n1 (fun f => f = 52) := FI_I.zup e_I4n1 (by first | exact rfl | decide | omega)
  have K_I4n1_52 : I4n1 52 = 256 := by rw [e_I4n1]; exact pk_us
  clear M_h FR_h FI_I e_I4n1 frh4n1 
  refine WX.s1 rfl rfl ?_
  refine WX.s1 (L' := [(0, .ref m), (1, .int 0)]) rfl rfl ?_
  have lp : ∀ (t i : Nat) (hL : Nat → aE) (IL : Nat → Int32) (AL : Nat → Nat → Int32), i + t = 256 → Fr h hL (inM m) → MAt hL m IL AL LN → Fi I IL (fun f => f = 52) → FaS AR AL (fun b => b = 35 ∨ b = 36 ∨ b = 37) → IL 52 = 256 → (∀ s, s < i → AL 35 s = nI (c s) ∧ AL 36 s = -1) → WX (lk tX12_tree) (mM (d + 1)) Ψ 9 [(0, .ref m), (1, .int (nI i))] [] (n, s, hL) := by
    clear M_h4n1 FR_h4n1 FI_I4n1 FA_AR
    intro t
    induction t with
    | zero =>
      intro i hL IL AL hi FR_hL M_hL FI_IL FA_AL K_IL_52 hv
      obtain rfl : i = 256 := by omega
      refine WX.s1 rfl rfl ?_
      refine WX.s1 rfl rfl ?_
      refine WX.icmp rfl (fun c_13 => ?_) (fun c_13 => absurd ((nI_leI (a := 256) (b := 256) (by omega) (by omega)).mpr (by omega)) c_13)
      clear c_13
      have hkn0 : KnM AL (tN c 0) := fun k hk => hv k hk
      have h010 : oneK (tN c 0) ≤ 256 := by rcases lsK_is (tN c 0).2.1 (tN c 0).2.2 0 256 with ⟨z, -⟩ | ⟨-, z, -⟩; exact Nat.le_trans (Nat.le_of_eq z) (by decide); exact z
      have h11 : (tN c 0).1 = 256 := rfl
      refine WX.s1 rfl rfl ?_
      refine WX.s1 rfl rfl ?_
      refine WX.callC (vs := [.ref m, .int (qI 0)]) rfl rfl rfl (Nat.le_of_ble_eq_true rfl) (M_hL.rcv hm) ?_
      refine m_least (x := tN c 0) hm M_hL hkn0 (by omega) (by omega) (tK_bd hc) K_IL_52 ?_
      show WX _ _ _ 46 [(0, .ref m), (1, .int (nI 256))] [.int (qI (oneK (tN c 0)))] (n, s, hL)
      refine WX.s1 (L' := [(0, .ref m), (1, .int (qI (oneK (tN c 0))))]) rfl rfl ?_
      refine WX.s1 rfl rfl ?_
      refine WX.s1 rfl rfl ?_
      refine WX.callC (vs := [.ref m, .int (qI (oneK (tN c 0)))]) rfl rfl rfl (Nat.le_of_ble_eq_true rfl) (M_hL.rcv hm) ?_
      refine m_least (x := tN c 0) hm M_hL hkn0 (by omega) (by omega) (tK_bd hc) K_IL_52 ?_
      show WX _ _ _ 52 [(0, .ref m), (1, .int (qI (oneK (tN c 0))))] [.int (qI (twoK (tN c 0)))] (n, s, hL)
      refine WX.s1 (L' := [(0, .ref m), (1, .int (qI (oneK (tN c 0)))), (2, .int (qI (twoK (tN c 0))))]) rfl rfl ?_
      have lp2 : ∀ (t j : Nat) (hL : Nat → aE) (IL : Nat → Int32) (AL : Nat → Nat → Int32), j + t = 256 → frees (tN c j) + j ≤ 256 → (tN c j).1 = 256 + j → Fr h hL (inM m) → MAt hL m IL AL LN → Fi I IL (fun f => f = 52) → FaS AR AL (fun b => b = 35 ∨ b = 36 ∨ b = 37) → IL 52 = nI (tN c j).1 → KnM AL (tN c j) → WX (lk tX12_tree) (mM (d + 1)) Ψ 53 [(0, .ref m), (1, .int (qI (oneK (tN c j)))), (2, .int (qI (twoK (tN c j))))] [] (n, s, hL) := by
        clear M_hL FR_hL FI_IL FA_AL K_IL_52 hkn0 hv
        intro t
        induction t with
        | zero =>
          intro j hL IL AL hj hfr hx1 FR_hL M_hL FI_IL FA_AL K_IL_52 hkn
          have ht0 : twoK (tN c j) = 0 := by apply Classical.byContradiction; intro z; have := frees_2 z; omega
          rw [ht0, qI0]
          refine WX.s1 rfl rfl ?_
          refine WX.if_ rfl (fun c_54 => ?_) (fun c_54 => absurd (by decide) c_54)
          refine WX.keep (y := 177) [0] (show ([0, 1, 2] : List Nat).Nodup by decide) rfl ?_
          have hend := tN_end ht0 (show j ≤ 256 by omega)
          rw [← hend] at hkn
          have hxe : (tN c 256).1 ≤ 512 := by rw [hend]; omega
          refine WX.s1 rfl rfl ?_
          refine WX.s1 (L' := [(0, .ref m), (3, .int 0)]) rfl rfl ?_
          refine WX.s1 rfl rfl ?_
          refine WX.s1 (L' := [(0, .ref m), (3, .int 0), (4, .int 0)]) rfl rfl ?_
          obtain ⟨lpE, TE⟩ := ti_N c 256
          obtain ⟨i1, i2, i3, -⟩ := TE
          have hdb : ∀ s, dF c s ≤ 18 := fun s => dF_le hc (by decide)
          have lp3 : ∀ (t i : Nat) (hL : Nat → aE) (IL : Nat → Int32) (AL : Nat → Nat → Int32), i + t = 256 → Fr h hL (inM m) → MAt hL m IL AL LN → Fi I IL (fun f => f = 52) → FaS AR AL (fun b => b = 35 ∨ b = 36 ∨ b = 37) → (∀ k, k < (tN c 256).1 → AL 36 k = qI ((tN c 256).2.2 k)) → (∀ s, s < i → AL 37 s = nI (dF c s)) → WX (lk tX12_tree) (mM (d + 1)) Ψ 139 [(0, .ref m), (3, .int (nI (mxK (dF c) i))), (4, .int (nI i))] [] (n, s, hL) := by
            have hkn6 : ∀ k, k < (tN c 256).1 → AL 36 k = qI ((tN c 256).2.2 k) := fun k hk => (hkn k hk).2
            clear M_hL FR_hL FI_IL FA_AL hkn K_IL_52 hkn6
            intro t
            induction t with
            | zero =>
              intro i hL IL AL hi FR_hL M_hL FI_IL FA_AL hkn hd
              obtain rfl : i = 256 := by omega
              refine WX.s1 rfl rfl ?_
              refine WX.s1 rfl rfl ?_
              refine WX.icmp rfl (fun c_144 => ?_) (fun c_144 => absurd ((nI_leI (a := 256) (b := 256) (by omega) (by omega)).mpr (by omega)) c_144)
              clear c_144
              refine WX.s1 rfl rfl ?_
              exact WX.ret1 rfl (kk hL IL AL FR_hL M_hL FI_IL FA_AL hd)
            | succ t ih3 =>
              intro i hL IL AL hi FR_hL M_hL FI_IL FA_AL hkn hd
              have hmb : mxK (dF c) i ≤ 18 := mxK_le hdb i
              have hms : mxK (dF c) (i + 1) = if mxK (dF c) i < dF c i then dF c i else mxK (dF c) i := rfl
              refine WX.s1 rfl rfl ?_
              refine WX.s1 rfl rfl ?_
              refine WX.icmp rfl (fun c_144 => absurd c_144 (fun zz_ => absurd ((nI_leI (a := 256) (b := i) (by omega) (by omega)).mp zz_) (Nat.not_le.mpr (by omega)))) (fun c_144 => ?_)
              clear c_144
              refine WX.s1 rfl rfl ?_
              refine WX.mget rfl hm M_hL rfl ?_
              refine WX.s1 rfl rfl ?_
              refine WX.s1 rfl rfl ?_
              refine WX.mast (c := 37) rfl hm M_hL (by decide) (by decide) (by decide) (by decide) (vp_in_nI (N := 256) (by omega) (by decide)) (fun h154n2 A154n2 e_A154n2 M_h154n2 frh154n2 => ?_)
              try dsimp only at e_A154n2
              have FR_h154n2 := FR_hL.ztr frh154n2
              clear M_hL FR_hL frh154n2
              rw [nI_clamp (by omega)] at e_A154n2
              have hk5 : ∀ k, k < (tN c 256).1 → A154n2 36 k = qI ((tN c 256).2.2 k) := fun k hk => by rw [e_A154n2, upA_ne (by decide)]; exact hkn k hk
              have FA5 := FA_AL.ast e_A154n2 (by omega)
              have hd5 : (∀ s, s < i → A154n2 37 s = nI (dF c s)) ∧ A154n2 37 i = nI 0 := ⟨fun s hs => by rw [e_A154n2, upA_same, pk_un (by omega)]; exact hd s hs, by rw [e_A154n2, upA_same, pk_us]; rfl⟩
              refine WX.s1 rfl rfl ?_
              refine WX.mget rfl hm M_h154n2 rfl ?_
              refine WX.s1 rfl rfl ?_
              refine WX.mald (c := 36) rfl hm M_h154n2 (by decide) (by decide) (by decide) (by decide) (vp_in_nI (N := 512) (by omega) (by decide)) ?_
              rw [nI_clamp (by omega), hk5 i (by omega)]
              refine WX.s1 (L' := [(0, .ref m), (3, .int (nI (mxK (dF c) i))), (4, .int (nI i)), (5, .int (qI ((tN c 256).2.2 i)))]) rfl rfl ?_
              have lp4 : ∀ (f z mm : Nat) (hM : Nat → aE) (AM : Nat → Nat → Int32), z ≤ (tN c 256).1 → (z ≠ 0 → (tN c 256).1 ≤ z - 1 + f) → mm + (if z = 0 then 0 else dpK (tN c 256).2.2 f (z - 1) + 1) = dF c i → Fr h hM (inM m) → MAt hM m IL AM LN → FaS AR AM (fun b => b = 35 ∨ b = 36 ∨ b = 37) → (∀ k, k < (tN c 256).1 → AM 36 k = qI ((tN c 256).2.2 k)) → (∀ s, s < i → AM 37 s = nI (dF c s)) → AM 37 i = nI mm → WX (lk tX12_tree) (mM (d + 1)) Ψ 164 [(0, .ref m), (3, .int (nI (mxK (dF c) i))), (4, .int (nI i)), (5, .int (qI z))] [] (n, s, hM) := by
                clear hd5 FA5 hk5 FA_AL hkn hd M_h154n2 FR_h154n2
                have hdi := hdb i
                intro f
                induction f with
                | zero =>
                  intro z mm hM AM hz1 hz2 hmm FR_hM M_hM FA_AM hkM hdM hdi2
                  obtain rfl : z = 0 := by apply Classical.byContradiction; intro y; have := hz2 y; omega
                  rw [if_pos rfl, Nat.add_zero] at hmm
                  rw [hmm] at hdi2
                  rw [qI0]
                  refine WX.s1 rfl rfl ?_
                  refine WX.if_ rfl (fun c_166 => ?_) (fun c_166 => absurd (by decide) c_166)
                  refine WX.s1 rfl rfl ?_
                  refine WX.mget rfl hm M_hM rfl ?_
                  refine WX.s1 rfl rfl ?_
                  refine WX.mald (c := 37) rfl hm M_hM (by decide) (by decide) (by decide) (by decide) (vp_in_nI (N := 256) (by omega) (by decide)) ?_
                  rw [nI_clamp (by omega), hdi2]
                  refine WX.s1 rfl rfl ?_
                  refine WX.icmp rfl (fun c_200 => ?_) (fun c_200 => ?_)
                  · skip
                    have n_200 : (dF c i) ≤ (mxK (dF c) i) := (nI_leI (a := dF c i) (b := mxK (dF c) i) (by omega) (by omega)).mp c_200
                    refine WX.s1 rfl rfl ?_
                    refine WX.s1 (L' := [(0, .ref m), (3, .int (nI (mxK (dF c) i))), (4, .int (nI i)), (5, .int (-1))]) rfl rfl ?_
                    refine WX.s1 (L' := [(0, .ref m), (3, .int (nI (mxK (dF c) i))), (4, .int ((nI i) + 1)), (5, .int (-1))]) rfl rfl ?_
                    rw [show ((nI i) + 1) = nI (i + 1) from nI_add i 1]
                    refine WX.s1 rfl rfl ?_
                    refine WX.keep (y := 177) [0, 3, 4] (show ([0, 3, 4, 5] : List Nat).Nodup by decide) rfl ?_
                    rw [if_neg (by omega)] at hms
                    have h9 := ih3 (i + 1) hM IL AM (by omega) FR_hM M_hM FI_IL FA_AM hkM (fun s hs => by by_cases y : s = i; rw [y]; exact hdi2; exact hdM s (by omega))
                    rw [hms] at h9
                    exact h9
                  · skip
                    have n_200 : (mxK (dF c) i) < (dF c i) := Nat.lt_of_not_le (fun zz_ => c_200 ((nI_leI (a := dF c i) (b := mxK (dF c) i) (by omega) (by omega)).mpr zz_))
                    refine WX.s1 rfl rfl ?_
                    refine WX.mget rfl hm M_hM rfl ?_
                    refine WX.s1 rfl rfl ?_
                    refine WX.mald (c := 37) rfl hm M_hM (by decide) (by decide) (by decide) (by decide) (vp_in_nI (N := 256) (by omega) (by decide)) ?_
                    rw [nI_clamp (by omega), hdi2]
                    refine WX.s1 rfl rfl ?_
                    refine WX.s1 (L' := [(0, .ref m), (3, .int (nI (dF c i))), (4, .int (nI i)), (5, .int (-1))]) rfl rfl ?_
                    refine WX.s1 (L' := [(0, .ref m), (3, .int (nI (dF c i))), (4, .int ((nI i) + 1)), (5, .int (-1))]) rfl rfl ?_
                    rw [show ((nI i) + 1) = nI (i + 1) from nI_add i 1]
                    refine WX.s1 rfl rfl ?_
                    refine WX.keep (y := 177) [0, 3, 4] (show ([0, 3, 4, 5] : List Nat).Nodup by decide) rfl ?_
                    rw [if_pos n_200] at hms
                    have h9 := ih3 (i + 1) hM IL AM (by omega) FR_hM M_hM FI_IL FA_AM hkM (fun s hs => by by_cases y : s = i; rw [y]; exact hdi2; exact hdM s (by omega))
                    rw [hms] at h9
                    exact h9
                | succ f ih4 =>
                  intro z mm hM AM hz1 hz2 hmm FR_hM M_hM FA_AM hkM hdM hdi2
                  by_cases hz0 : z = 0
                  · subst hz0
                    rw [if_pos rfl, Nat.add_zero] at hmm
                    rw [hmm] at hdi2
                    rw [qI0]
                    refine WX.s1 rfl rfl ?_
                    refine WX.if_ rfl (fun c_166 => ?_) (fun c_166 => absurd (by decide) c_166)
                    refine WX.s1 rfl rfl ?_
                    refine WX.mget rfl hm M_hM rfl ?_
                    refine WX.s1 rfl rfl ?_
                    refine WX.mald (c := 37) rfl hm M_hM (by decide) (by decide) (by decide) (by decide) (vp_in_nI (N := 256) (by omega) (by decide)) ?_
                    rw [nI_clamp (by omega), hdi2]
                    refine WX.s1 rfl rfl ?_
                    refine WX.icmp rfl (fun c_200 => ?_) (fun c_200 => ?_)
                    · skip
                      have n_200 : (dF c i) ≤ (mxK (dF c) i) := (nI_leI (a := dF c i) (b := mxK (dF c) i) (by omega) (by omega)).mp c_200
                      refine WX.s1 rfl rfl ?_
                      refine WX.s1 (L' := [(0, .ref m), (3, .int (nI (mxK (dF c) i))), (4, .int (nI i)), (5, .int (-1))]) rfl rfl ?_
                      refine WX.s1 (L' := [(0, .ref m), (3, .int (nI (mxK (dF c) i))), (4, .int ((nI i) + 1)), (5, .int (-1))]) rfl rfl ?_
                      rw [show ((nI i) + 1) = nI (i + 1) from nI_add i 1]
                      refine WX.s1 rfl rfl ?_
                      refine WX.keep (y := 177) [0, 3, 4] (show ([0, 3, 4, 5] : List Nat).Nodup by decide) rfl ?_
                      rw [if_neg (by omega)] at hms
                      have h9 := ih3 (i + 1) hM IL AM (by omega) FR_hM M_hM FI_IL FA_AM hkM (fun s hs => by by_cases y : s = i; rw [y]; exact hdi2; exact hdM s (by omega))
                      rw [hms] at h9
                      exact h9
                    · skip
                      have n_200 : (mxK (dF c) i) < (dF c i) := Nat.lt_of_not_le (fun zz_ => c_200 ((nI_leI (a := dF c i) (b := mxK (dF c) i) (by omega) (by omega)).mpr zz_))
                      refine WX.s1 rfl rfl ?_
                      refine WX.mget rfl hm M_hM rfl ?_
                      refine WX.s1 rfl rfl ?_
                      refine WX.mald (c := 37) rfl hm M_hM (by decide) (by decide) (by decide) (by decide) (vp_in_nI (N := 256) (by omega) (by decide)) ?_
                      rw [nI_clamp (by omega), hdi2]
                      refine WX.s1 rfl rfl ?_
                      refine WX.s1 (L' := [(0, .ref m), (3, .int (nI (dF c i))), (4, .int (nI i)), (5, .int (-1))]) rfl rfl ?_
                      refine WX.s1 (L' := [(0, .ref m), (3, .int (nI (dF c i))), (4, .int ((nI i) + 1)), (5, .int (-1))]) rfl rfl ?_
                      rw [show ((nI i) + 1) = nI (i + 1) from nI_add i 1]
                      refine WX.s1 rfl rfl ?_
                      refine WX.keep (y := 177) [0, 3, 4] (show ([0, 3, 4, 5] : List Nat).Nodup by decide) rfl ?_
                      rw [if_pos n_200] at hms
                      have h9 := ih3 (i + 1) hM IL AM (by omega) FR_hM M_hM FI_IL FA_AM hkM (fun s hs => by by_cases y : s = i; rw [y]; exact hdi2; exact hdM s (by omega))
                      rw [hms] at h9
                      exact h9
                  obtain ⟨y, rfl⟩ : ∃ y, z = y + 1 := ⟨z - 1, by omega⟩
                  rw [if_neg hz0, Nat.add_sub_cancel] at hmm
                  rw [Nat.add_sub_cancel] at hz2
                  have hy2 := hz2 hz0
                  rw [qIs]
                  have hdps : dpK (tN c 256).2.2 (f + 1) y = if (tN c 256).2.2 y = 0 then 0 else dpK (tN c 256).2.2 f ((tN c 256).2.2 y - 1) + 1 := rfl
                  rw [hdps] at hmm
                  refine WX.s1 rfl rfl ?_
                  refine WX.if_ rfl (fun c_166 => absurd c_166 (fun zz_ => absurd ((nI_ltI (a := y) (b := 0) (by omega) (by omega)).mp zz_) (Nat.not_lt.mpr (by omega)))) (fun c_166 => ?_)
                  clear c_166
                  refine WX.s1 rfl rfl ?_
                  refine WX.mget rfl hm M_hM rfl ?_
                  refine WX.s1 rfl rfl ?_
                  refine WX.s1 rfl rfl ?_
                  refine WX.mald (c := 37) rfl hm M_hM (by decide) (by decide) (by decide) (by decide) (vp_in_nI (N := 256) (by omega) (by decide)) ?_
                  rw [nI_clamp (by omega), hdi2]
                  refine WX.s1 rfl rfl ?_
                  refine WX.s1 (S' := [.int ((nI mm) + 1), .int (nI i), .ref (m + 37)]) rfl rfl ?_
                  rw [show ((nI mm) + 1) = nI (mm + 1) from nI_add mm 1]
                  refine WX.mast (c := 37) rfl hm M_hM (by decide) (by decide) (by decide) (by decide) (vp_in_nI (N := 256) (by omega) (by decide)) (fun h179n3 A179n3 e_A179n3 M_h179n3 frh179n3 => ?_)
                  try dsimp only at e_A179n3
                  have FR_h179n3 := FR_hM.ztr frh179n3
                  clear M_hM FR_hM frh179n3
                  refine WX.s1 rfl rfl ?_
                  refine WX.mget rfl hm M_h179n3 rfl ?_
                  refine WX.s1 rfl rfl ?_
                  refine WX.mald (c := 36) rfl hm M_h179n3 (by decide) (by decide) (by decide) (by decide) (vp_in_nI (N := 512) (by omega) (by decide)) ?_
                  rw [nI_clamp (by omega), e_A179n3, upA_ne (by decide), hkM y (by omega)]
                  refine WX.s1 (L' := [(0, .ref m), (3, .int (nI (mxK (dF c) i))), (4, .int (nI i)), (5, .int (qI ((tN c 256).2.2 y)))]) rfl rfl ?_
                  refine WX.s1 rfl rfl ?_
                  rw [nI_clamp (by omega)] at e_A179n3
                  refine ih4 ((tN c 256).2.2 y) (mm + 1) h179n3 A179n3 ?_ (fun q => ?_) (by omega) FR_h179n3 M_h179n3 (FA_AM.ast e_A179n3 (by omega)) (fun k hk => by rw [e_A179n3, upA_ne (by decide)]; exact hkM k hk) (fun s hs => by rw [e_A179n3, upA_same, pk_un (by omega)]; exact hdM s hs) (by rw [e_A179n3, upA_same, pk_us])
                  · by_cases q : (tN c 256).2.2 y = 0
                    · omega
                    · exact (i3 y q).2.1
                  · have q2 := i3 y q; omega
              exact lp4 511 ((tN c 256).2.2 i) 0 h154n2 A154n2 (by by_cases q : (tN c 256).2.2 i = 0; omega; exact (i3 i q).2.1) (fun q => by have q2 := i3 i q; omega) (by rw [Nat.zero_add]; rfl) FR_h154n2 M_h154n2 FA5 hk5 hd5.1 hd5.2
          exact lp3 256 0 hL IL AL (by omega) FR_hL M_hL FI_IL FA_AL (fun k hk => (hkn k hk).2) (fun q hq => absurd hq (Nat.not_lt_zero q))
        | succ t ih2 =>
          intro j hL IL AL hj hfr hx1 FR_hL M_hL FI_IL FA_AL K_IL_52 hkn
          by_cases ht0 : twoK (tN c j) = 0
          · rw [ht0, qI0]
            refine WX.s1 rfl rfl ?_
            refine WX.if_ rfl (fun c_54 => ?_) (fun c_54 => absurd (by decide) c_54)
            refine WX.keep (y := 177) [0] (show ([0, 1, 2] : List Nat).Nodup by decide) rfl ?_
            have hend := tN_end ht0 (show j ≤ 256 by omega)
            rw [← hend] at hkn
            have hxe : (tN c 256).1 ≤ 512 := by rw [hend]; omega
            refine WX.s1 rfl rfl ?_
            refine WX.s1 (L' := [(0, .ref m), (3, .int 0)]) rfl rfl ?_
            refine WX.s1 rfl rfl ?_
            refine WX.s1 (L' := [(0, .ref m), (3, .int 0), (4, .int 0)]) rfl rfl ?_
            obtain ⟨lpE, TE⟩ := ti_N c 256
            obtain ⟨i1, i2, i3, -⟩ := TE
            have hdb : ∀ s, dF c s ≤ 18 := fun s => dF_le hc (by decide)
            have lp3 : ∀ (t i : Nat) (hL : Nat → aE) (IL : Nat → Int32) (AL : Nat → Nat → Int32), i + t = 256 → Fr h hL (inM m) → MAt hL m IL AL LN → Fi I IL (fun f => f = 52) → FaS AR AL (fun b => b = 35 ∨ b = 36 ∨ b = 37) → (∀ k, k < (tN c 256).1 → AL 36 k = qI ((tN c 256).2.2 k)) → (∀ s, s < i → AL 37 s = nI (dF c s)) → WX (lk tX12_tree) (mM (d + 1)) Ψ 139 [(0, .ref m), (3, .int (nI (mxK (dF c) i))), (4, .int (nI i))] [] (n, s, hL) := by
              have hkn6 : ∀ k, k < (tN c 256).1 → AL 36 k = qI ((tN c 256).2.2 k) := fun k hk => (hkn k hk).2
              clear M_hL FR_hL FI_IL FA_AL hkn K_IL_52 hkn6
              intro t
              induction t with
              | zero =>
                intro i hL IL AL hi FR_hL M_hL FI_IL FA_AL hkn hd
                obtain rfl : i = 256 := by omega
                refine WX.s1 rfl rfl ?_
                refine WX.s1 rfl rfl ?_
                refine WX.icmp rfl (fun c_144 => ?_) (fun c_144 => absurd ((nI_leI (a := 256) (b := 256) (by omega) (by omega)).mpr (by omega)) c_144)
                clear c_144
                refine WX.s1 rfl rfl ?_
                exact WX.ret1 rfl (kk hL IL AL FR_hL M_hL FI_IL FA_AL hd)
              | succ t ih3 =>
                intro i hL IL AL hi FR_hL M_hL FI_IL FA_AL hkn hd
                have hmb : mxK (dF c) i ≤ 18 := mxK_le hdb i
                have hms : mxK (dF c) (i + 1) = if mxK (dF c) i < dF c i then dF c i else mxK (dF c) i := rfl
                refine WX.s1 rfl rfl ?_
                refine WX.s1 rfl rfl ?_
                refine WX.icmp rfl (fun c_144 => absurd c_144 (fun zz_ => absurd ((nI_leI (a := 256) (b := i) (by omega) (by omega)).mp zz_) (Nat.not_le.mpr (by omega)))) (fun c_144 => ?_)
                clear c_144
                refine WX.s1 rfl rfl ?_
                refine WX.mget rfl hm M_hL rfl ?_
                refine WX.s1 rfl rfl ?_
                refine WX.s1 rfl rfl ?_
                refine WX.mast (c := 37) rfl hm M_hL (by decide) (by decide) (by decide) (by decide) (vp_in_nI (N := 256) (by omega) (by decide)) (fun h154n4 A154n4 e_A154n4 M_h154n4 frh154n4 => ?_)
                try dsimp only at e_A154n4
                have FR_h154n4 := FR_hL.ztr frh154n4
                clear M_hL FR_hL frh154n4
                rw [nI_clamp (by omega)] at e_A154n4
                have hk5 : ∀ k, k < (tN c 256).1 → A154n4 36 k = qI ((tN c 256).2.2 k) := fun k hk => by rw [e_A154n4, upA_ne (by decide)]; exact hkn k hk
                have FA5 := FA_AL.ast e_A154n4 (by omega)
                have hd5 : (∀ s, s < i → A154n4 37 s = nI (dF c s)) ∧ A154n4 37 i = nI 0 := ⟨fun s hs => by rw [e_A154n4, upA_same, pk_un (by omega)]; exact hd s hs, by rw [e_A154n4, upA_same, pk_us]; rfl⟩
                refine WX.s1 rfl rfl ?_
                refine WX.mget rfl hm M_h154n4 rfl ?_
                refine WX.s1 rfl rfl ?_
                refine WX.mald (c := 36) rfl hm M_h154n4 (by decide) (by decide) (by decide) (by decide) (vp_in_nI (N := 512) (by omega) (by decide)) ?_
                rw [nI_clamp (by omega), hk5 i (by omega)]
                refine WX.s1 (L' := [(0, .ref m), (3, .int (nI (mxK (dF c) i))), (4, .int (nI i)), (5, .int (qI ((tN c 256).2.2 i)))]) rfl rfl ?_
                have lp4 : ∀ (f z mm : Nat) (hM : Nat → aE) (AM : Nat → Nat → Int32), z ≤ (tN c 256).1 → (z ≠ 0 → (tN c 256).1 ≤ z - 1 + f) → mm + (if z = 0 then 0 else dpK (tN c 256).2.2 f (z - 1) + 1) = dF c i → Fr h hM (inM m) → MAt hM m IL AM LN → FaS AR AM (fun b => b = 35 ∨ b = 36 ∨ b = 37) → (∀ k, k < (tN c 256).1 → AM 36 k = qI ((tN c 256).2.2 k)) → (∀ s, s < i → AM 37 s = nI (dF c s)) → AM 37 i = nI mm → WX (lk tX12_tree) (mM (d + 1)) Ψ 164 [(0, .ref m), (3, .int (nI (mxK (dF c) i))), (4, .int (nI i)), (5, .int (qI z))] [] (n, s, hM) := by
                  clear hd5 FA5 hk5 FA_AL hkn hd M_h154n4 FR_h154n4
                  have hdi := hdb i
                  intro f
                  induction f with
                  | zero =>
                    intro z mm hM AM hz1 hz2 hmm FR_hM M_hM FA_AM hkM hdM hdi2
                    obtain rfl : z = 0 := by apply Classical.byContradiction; intro y; have := hz2 y; omega
                    rw [if_pos rfl, Nat.add_zero] at hmm
                    rw [hmm] at hdi2
                    rw [qI0]
                    refine WX.s1 rfl rfl ?_
                    refine WX.if_ rfl (fun c_166 => ?_) (fun c_166 => absurd (by decide) c_166)
                    refine WX.s1 rfl rfl ?_
                    refine WX.mget rfl hm M_hM rfl ?_
                    refine WX.s1 rfl rfl ?_
                    refine WX.mald (c := 37) rfl hm M_hM (by decide) (by decide) (by decide) (by decide) (vp_in_nI (N := 256) (by omega) (by decide)) ?_
                    rw [nI_clamp (by omega), hdi2]
                    refine WX.s1 rfl rfl ?_
                    refine WX.icmp rfl (fun c_200 => ?_) (fun c_200 => ?_)
                    · skip
                      have n_200 : (dF c i) ≤ (mxK (dF c) i) := (nI_leI (a := dF c i) (b := mxK (dF c) i) (by omega) (by omega)).mp c_200
                      refine WX.s1 rfl rfl ?_
                      refine WX.s1 (L' := [(0, .ref m), (3, .int (nI (mxK (dF c) i))), (4, .int (nI i)), (5, .int (-1))]) rfl rfl ?_
                      refine WX.s1 (L' := [(0, .ref m), (3, .int (nI (mxK (dF c) i))), (4, .int ((nI i) + 1)), (5, .int (-1))]) rfl rfl ?_
                      rw [show ((nI i) + 1) = nI (i + 1) from nI_add i 1]
                      refine WX.s1 rfl rfl ?_
                      refine WX.keep (y := 177) [0, 3, 4] (show ([0, 3, 4, 5] : List Nat).Nodup by decide) rfl ?_
                      rw [if_neg (by omega)] at hms
                      have h9 := ih3 (i + 1) hM IL AM (by omega) FR_hM M_hM FI_IL FA_AM hkM (fun s hs => by by_cases y : s = i; rw [y]; exact hdi2; exact hdM s (by omega))
                      rw [hms] at h9
                      exact h9
                    · skip
                      have n_200 : (mxK (dF c) i) < (dF c i) := Nat.lt_of_not_le (fun zz_ => c_200 ((nI_leI (a := dF c i) (b := mxK (dF c) i) (by omega) (by omega)).mpr zz_))
                      refine WX.s1 rfl rfl ?_
                      refine WX.mget rfl hm M_hM rfl ?_
                      refine WX.s1 rfl rfl ?_
                      refine WX.mald (c := 37) rfl hm M_hM (by decide) (by decide) (by decide) (by decide) (vp_in_nI (N := 256) (by omega) (by decide)) ?_
                      rw [nI_clamp (by omega), hdi2]
                      refine WX.s1 rfl rfl ?_
                      refine WX.s1 (L' := [(0, .ref m), (3, .int (nI (dF c i))), (4, .int (nI i)), (5, .int (-1))]) rfl rfl ?_
                      refine WX.s1 (L' := [(0, .ref m), (3, .int (nI (dF c i))), (4, .int ((nI i) + 1)), (5, .int (-1))]) rfl rfl ?_
                      rw [show ((nI i) + 1) = nI (i + 1) from nI_add i 1]
                      refine WX.s1 rfl rfl ?_
                      refine WX.keep (y := 177) [0, 3, 4] (show ([0, 3, 4, 5] : List Nat).Nodup by decide) rfl ?_
                      rw [if_pos n_200] at hms
                      have h9 := ih3 (i + 1) hM IL AM (by omega) FR_hM M_hM FI_IL FA_AM hkM (fun s hs => by by_cases y : s = i; rw [y]; exact hdi2; exact hdM s (by omega))
                      rw [hms] at h9
                      exact h9
                  | succ f ih4 =>
                    intro z mm hM AM hz1 hz2 hmm FR_hM M_hM FA_AM hkM hdM hdi2
                    by_cases hz0 : z = 0
                    · subst hz0
                      rw [if_pos rfl, Nat.add_zero] at hmm
                      rw [hmm] at hdi2
                      rw [qI0]
                      refine WX.s1 rfl rfl ?_
                      refine WX.if_ rfl (fun c_166 => ?_) (fun c_166 => absurd (by decide) c_166)
                      refine WX.s1 rfl rfl ?_
                      refine WX.mget rfl hm M_hM rfl ?_
                      refine WX.s1 rfl rfl ?_
                      refine WX.mald (c := 37) rfl hm M_hM (by decide) (by decide) (by decide) (by decide) (vp_in_nI (N := 256) (by omega) (by decide)) ?_
                      rw [nI_clamp (by omega), hdi2]
                      refine WX.s1 rfl rfl ?_
                      refine WX.icmp rfl (fun c_200 => ?_) (fun c_200 => ?_)
                      · skip
                        have n_200 : (dF c i) ≤ (mxK (dF c) i) := (nI_leI (a := dF c i) (b := mxK (dF c) i) (by omega) (by omega)).mp c_200
                        refine WX.s1 rfl rfl ?_
                        refine WX.s1 (L' := [(0, .ref m), (3, .int (nI (mxK (dF c) i))), (4, .int (nI i)), (5, .int (-1))]) rfl rfl ?_
                        refine WX.s1 (L' := [(0, .ref m), (3, .int (nI (mxK (dF c) i))), (4, .int ((nI i) + 1)), (5, .int (-1))]) rfl rfl ?_
                        rw [show ((nI i) + 1) = nI (i + 1) from nI_add i 1]
                        refine WX.s1 rfl rfl ?_
                        refine WX.keep (y := 177) [0, 3, 4] (show ([0, 3, 4, 5] : List Nat).Nodup by decide) rfl ?_
                        rw [if_neg (by omega)] at hms
                        have h9 := ih3 (i + 1) hM IL AM (by omega) FR_hM M_hM FI_IL FA_AM hkM (fun s hs => by by_cases y : s = i; rw [y]; exact hdi2; exact hdM s (by omega))
                        rw [hms] at h9
                        exact h9
                      · skip
                        have n_200 : (mxK (dF c) i) < (dF c i) := Nat.lt_of_not_le (fun zz_ => c_200 ((nI_leI (a := dF c i) (b := mxK (dF c) i) (by omega) (by omega)).mpr zz_))
                        refine WX.s1 rfl rfl ?_
                        refine WX.mget rfl hm M_hM rfl ?_
                        refine WX.s1 rfl rfl ?_
                        refine WX.mald (c := 37) rfl hm M_hM (by decide) (by decide) (by decide) (by decide) (vp_in_nI (N := 256) (by omega) (by decide)) ?_
                        rw [nI_clamp (by omega), hdi2]
                        refine WX.s1 rfl rfl ?_
                        refine WX.s1 (L' := [(0, .ref m), (3, .int (nI (dF c i))), (4, .int (nI i)), (5, .int (-1))]) rfl rfl ?_
                        refine WX.s1 (L' := [(0, .ref m), (3, .int (nI (dF c i))), (4, .int ((nI i) + 1)), (5, .int (-1))]) rfl rfl ?_
                        rw [show ((nI i) + 1) = nI (i + 1) from nI_add i 1]
                        refine WX.s1 rfl rfl ?_
                        refine WX.keep (y := 177) [0, 3, 4] (show ([0, 3, 4, 5] : List Nat).Nodup by decide) rfl ?_
                        rw [if_pos n_200] at hms
                        have h9 := ih3 (i + 1) hM IL AM (by omega) FR_hM M_hM FI_IL FA_AM hkM (fun s hs => by by_cases y : s = i; rw [y]; exact hdi2; exact hdM s (by omega))
                        rw [hms] at h9
                        exact h9
                    obtain ⟨y, rfl⟩ : ∃ y, z = y + 1 := ⟨z - 1, by omega⟩
                    rw [if_neg hz0, Nat.add_sub_cancel] at hmm
                    rw [Nat.add_sub_cancel] at hz2
                    have hy2 := hz2 hz0
                    rw [qIs]
                    have hdps : dpK (tN c 256).2.2 (f + 1) y = if (tN c 256).2.2 y = 0 then 0 else dpK (tN c 256).2.2 f ((tN c 256).2.2 y - 1) + 1 := rfl
                    rw [hdps] at hmm
                    refine WX.s1 rfl rfl ?_
                    refine WX.if_ rfl (fun c_166 => absurd c_166 (fun zz_ => absurd ((nI_ltI (a := y) (b := 0) (by omega) (by omega)).mp zz_) (Nat.not_lt.mpr (by omega)))) (fun c_166 => ?_)
                    clear c_166
                    refine WX.s1 rfl rfl ?_
                    refine WX.mget rfl hm M_hM rfl ?_
                    refine WX.s1 rfl rfl ?_
                    refine WX.s1 rfl rfl ?_
                    refine WX.mald (c := 37) rfl hm M_hM (by decide) (by decide) (by decide) (by decide) (vp_in_nI (N := 256) (by omega) (by decide)) ?_
                    rw [nI_clamp (by omega), hdi2]
                    refine WX.s1 rfl rfl ?_
                    refine WX.s1 (S' := [.int ((nI mm) + 1), .int (nI i), .ref (m + 37)]) rfl rfl ?_
                    rw [show ((nI mm) + 1) = nI (mm + 1) from nI_add mm 1]
                    refine WX.mast (c := 37) rfl hm M_hM (by decide) (by decide) (by decide) (by decide) (vp_in_nI (N := 256) (by omega) (by decide)) (fun h179n5 A179n5 e_A179n5 M_h179n5 frh179n5 => ?_)
                    try dsimp only at e_A179n5
                    have FR_h179n5 := FR_hM.ztr frh179n5
                    clear M_hM FR_hM frh179n5
                    refine WX.s1 rfl rfl ?_
                    refine WX.mget rfl hm M_h179n5 rfl ?_
                    refine WX.s1 rfl rfl ?_
                    refine WX.mald (c := 36) rfl hm M_h179n5 (by decide) (by decide) (by decide) (by decide) (vp_in_nI (N := 512) (by omega) (by decide)) ?_
                    rw [nI_clamp (by omega), e_A179n5, upA_ne (by decide), hkM y (by omega)]
                    refine WX.s1 (L' := [(0, .ref m), (3, .int (nI (mxK (dF c) i))), (4, .int (nI i)), (5, .int (qI ((tN c 256).2.2 y)))]) rfl rfl ?_
                    refine WX.s1 rfl rfl ?_
                    rw [nI_clamp (by omega)] at e_A179n5
                    refine ih4 ((tN c 256).2.2 y) (mm + 1) h179n5 A179n5 ?_ (fun q => ?_) (by omega) FR_h179n5 M_h179n5 (FA_AM.ast e_A179n5 (by omega)) (fun k hk => by rw [e_A179n5, upA_ne (by decide)]; exact hkM k hk) (fun s hs => by rw [e_A179n5, upA_same, pk_un (by omega)]; exact hdM s hs) (by rw [e_A179n5, upA_same, pk_us])
                    · by_cases q : (tN c 256).2.2 y = 0
                      · omega
                      · exact (i3 y q).2.1
                    · have q2 := i3 y q; omega
                exact lp4 511 ((tN c 256).2.2 i) 0 h154n4 A154n4 (by by_cases q : (tN c 256).2.2 i = 0; omega; exact (i3 i q).2.1) (fun q => by have q2 := i3 i q; omega) (by rw [Nat.zero_add]; rfl) FR_h154n4 M_h154n4 FA5 hk5 hd5.1 hd5.2
            exact lp3 256 0 hL IL AL (by omega) FR_hL M_hL FI_IL FA_AL (fun k hk => (hkn k hk).2) (fun q hq => absurd hq (Nat.not_lt_zero q))
          · have hf2 := frees_2 ht0
            obtain ⟨lp0, T⟩ := ti_N c j
            obtain ⟨o1, o2, w1, w2, hne, of, op, wf, wp, hle, hmin⟩ := two_ok ht0
            have hfs := frees_s T ht0
            have hs1 := (ti_s T ht0).2.2
            clear hmin
            obtain ⟨o, ho⟩ : ∃ z, oneK (tN c j) = z + 1 := ⟨oneK (tN c j) - 1, by omega⟩
            obtain ⟨v, hv⟩ : ∃ z, twoK (tN c j) = z + 1 := ⟨twoK (tN c j) - 1, by omega⟩
            have eS : tN c (j + 1) = ((tN c j).1 + 1, updN (tN c j).2.1 (tN c j).1 ((tN c j).2.1 o + (tN c j).2.1 v), updN (updN (updN (tN c j).2.2 (tN c j).1 0) o ((tN c j).1 + 1)) v ((tN c j).1 + 1)) := by show tS (tN c j) = _; unfold tS; rw [if_neg ht0, ho, hv, Nat.add_sub_cancel, Nat.add_sub_cancel]
            rw [ho, hv, qIs, qIs]
            have bo := tK_bd hc (j := j) o (by omega)
            have bv := tK_bd hc (j := j) v (by omega)
            refine WX.s1 rfl rfl ?_
            refine WX.if_ rfl (fun c_54 => absurd c_54 (fun zz_ => absurd ((nI_ltI (a := v) (b := 0) (by omega) (by omega)).mp zz_) (Nat.not_lt.mpr (by omega)))) (fun c_54 => ?_)
            clear c_54
            refine WX.s1 rfl rfl ?_
            refine WX.mget rfl hm M_hL rfl ?_
            refine WX.s1 rfl rfl ?_
            refine WX.mgetK (x := (nI (tN c j).1)) rfl hm M_hL rfl K_IL_52 ?_
            refine WX.s1 rfl rfl ?_
            refine WX.mget rfl hm M_hL rfl ?_
            refine WX.s1 rfl rfl ?_
            refine WX.mald (c := 35) rfl hm M_hL (by decide) (by decide) (by decide) (by decide) (vp_in_nI (N := 512) (by omega) (by decide)) ?_
            rw [nI_clamp (by omega), (hkn o (by omega)).1]
            refine WX.s1 rfl rfl ?_
            refine WX.mget rfl hm M_hL rfl ?_
            refine WX.s1 rfl rfl ?_
            refine WX.mald (c := 35) rfl hm M_hL (by decide) (by decide) (by decide) (by decide) (vp_in_nI (N := 512) (by omega) (by decide)) ?_
            rw [nI_clamp (by omega), (hkn v (by omega)).1]
            refine WX.s1 (S' := [.int ((nI ((tN c j).2.1 o)) + (nI ((tN c j).2.1 v))), .int (nI (tN c j).1), .ref (m + 35)]) rfl rfl ?_
            rw [show ((nI ((tN c j).2.1 o)) + (nI ((tN c j).2.1 v))) = nI ((tN c j).2.1 o + (tN c j).2.1 v) from nI_add ((tN c j).2.1 o) ((tN c j).2.1 v)]
            refine WX.mast (c := 35) rfl hm M_hL (by decide) (by decide) (by decide) (by decide) (vp_in_nI (N := 512) (by omega) (by decide)) (fun h78n6 A78n6 e_A78n6 M_h78n6 frh78n6 => ?_)
            try dsimp only at e_A78n6
            have FR_h78n6 := FR_hL.ztr frh78n6
            clear M_hL FR_hL frh78n6
            refine WX.s1 rfl rfl ?_
            refine WX.mget rfl hm M_h78n6 rfl ?_
            refine WX.s1 rfl rfl ?_
            refine WX.mgetK (x := (nI (tN c j).1)) rfl hm M_h78n6 rfl K_IL_52 ?_
            refine WX.s1 rfl rfl ?_
            refine WX.mast (c := 36) rfl hm M_h78n6 (by decide) (by decide) (by decide) (by decide) (vp_in_nI (N := 512) (by omega) (by decide)) (fun h88n7 A88n7 e_A88n7 M_h88n7 frh88n7 => ?_)
            try dsimp only at e_A88n7
            have FR_h88n7 := FR_h78n6.ztr frh88n7
            clear M_h78n6 FR_h78n6 frh88n7
            refine WX.s1 rfl rfl ?_
            refine WX.mget rfl hm M_h88n7 rfl ?_
            refine WX.s1 rfl rfl ?_
            refine WX.s1 rfl rfl ?_
            refine WX.mgetK (x := (nI (tN c j).1)) rfl hm M_h88n7 rfl K_IL_52 ?_
            refine WX.mast (c := 36) rfl hm M_h88n7 (by decide) (by decide) (by decide) (by decide) (vp_in_nI (N := 512) (by omega) (by decide)) (fun h98n8 A98n8 e_A98n8 M_h98n8 frh98n8 => ?_)
            try dsimp only at e_A98n8
            have FR_h98n8 := FR_h88n7.ztr frh98n8
            clear M_h88n7 FR_h88n7 frh98n8
            refine WX.s1 rfl rfl ?_
            refine WX.mget rfl hm M_h98n8 rfl ?_
            refine WX.s1 rfl rfl ?_
            refine WX.s1 rfl rfl ?_
            refine WX.mgetK (x := (nI (tN c j).1)) rfl hm M_h98n8 rfl K_IL_52 ?_
            refine WX.mast (c := 36) rfl hm M_h98n8 (by decide) (by decide) (by decide) (by decide) (vp_in_nI (N := 512) (by omega) (by decide)) (fun h108n9 A108n9 e_A108n9 M_h108n9 frh108n9 => ?_)
            try dsimp only at e_A108n9
            have FR_h108n9 := FR_h98n8.ztr frh108n9
            clear M_h98n8 FR_h98n8 frh108n9
            refine WX.s1 rfl rfl ?_
            refine WX.s1 rfl rfl ?_
            refine WX.mgetK (x := (nI (tN c j).1)) rfl hm M_h108n9 rfl K_IL_52 ?_
            refine WX.s1 rfl rfl ?_
            refine WX.s1 (S' := [.int ((nI (tN c j).1) + 1), .ref m]) rfl rfl ?_
            rw [show ((nI (tN c j).1) + 1) = nI ((tN c j).1 + 1) from nI_add ((tN c j).1) 1]
            refine WX.mput rfl hm M_h108n9 (rfl) (by decide) (fun _ => rfl) (fun h116n10 I116n10 e_I116n10 M_h116n10 frh116n10 => ?_)
            have FR_h116n10 := FR_h108n9.ztr frh116n10
            have FI_I116n10 : Fi I I116n10 (fun f => f = 52) := FI_IL.zup e_I116n10 (by first | exact rfl | decide | omega)
            have K_I116n10_52 : I116n10 52 = (nI ((tN c j).1 + 1)) := by rw [e_I116n10]; exact pk_us
            clear M_h108n9 FR_h108n9 FI_IL e_I116n10 frh116n10 K_IL_52
            rw [nI_clamp (by omega)] at e_A78n6 e_A88n7 e_A98n8 e_A108n9
            have FA2 : FaS AR A108n9 (fun b => b = 35 ∨ b = 36 ∨ b = 37) := (((FA_AL.ast e_A78n6 (by omega)).ast e_A88n7 (by omega)).ast e_A98n8 (by omega)).ast e_A108n9 (by omega)
            have hkn2 : KnM A108n9 (tN c (j + 1)) := fun k hk => by
              rw [eS] at hk ⊢
              have hk : k < (tN c j).1 + 1 := hk
              show A108n9 35 k = nI (updN (tN c j).2.1 (tN c j).1 _ k) ∧ A108n9 36 k = qI (updN (updN (updN (tN c j).2.2 (tN c j).1 0) o ((tN c j).1 + 1)) v ((tN c j).1 + 1) k)
              constructor
              · rw [e_A108n9, upA_ne (by decide), e_A98n8, upA_ne (by decide), e_A88n7, upA_ne (by decide), e_A78n6, upA_same]
                by_cases z : k = (tN c j).1
                · rw [z, pk_us, updN_s]
                · rw [pk_un z, updN_n z]; exact (hkn k (by omega)).1
              · rw [e_A108n9, upA_same, e_A98n8, upA_same, e_A88n7, upA_same, e_A78n6, upA_ne (by decide)]
                by_cases z1 : k = v
                · rw [z1, pk_us, updN_s]; rfl
                · rw [pk_un z1, updN_n z1]
                  by_cases z2 : k = o
                  · rw [z2, pk_us, updN_s]; rfl
                  · rw [pk_un z2, updN_n z2]
                    by_cases z3 : k = (tN c j).1
                    · rw [z3, pk_us, updN_s]; rfl
                    · rw [pk_un z3, updN_n z3]; exact (hkn k (by omega)).2
            have hx2 : (tN c (j + 1)).1 = 256 + (j + 1) := by rw [show (tN c (j + 1)).1 = (tS (tN c j)).1 from rfl, hs1]; omega
            have K2_52 : I116n10 52 = nI (tN c (j + 1)).1 := by rw [K_I116n10_52, hx2, hx1]; exact congrArg nI (by omega)
            have h011 : oneK (tN c (j + 1)) ≤ 512 := by rcases lsK_is (tN c (j + 1)).2.1 (tN c (j + 1)).2.2 0 (tN c (j + 1)).1 with ⟨z, -⟩ | ⟨-, z, -⟩; exact Nat.le_trans (Nat.le_of_eq z) (by decide); exact Nat.le_trans z (by omega)
            refine WX.s1 rfl rfl ?_
            refine WX.s1 rfl rfl ?_
            refine WX.callC (vs := [.ref m, .int (qI 0)]) rfl rfl rfl (Nat.le_of_ble_eq_true rfl) (M_h116n10.rcv hm) ?_
            refine m_least (x := tN c (j + 1)) hm M_h116n10 hkn2 (by omega) (by omega) (tK_bd hc) K2_52 ?_
            show WX _ _ _ 124 [(0, .ref m), (1, .int (nI o)), (2, .int (nI v))] [.int (qI (oneK (tN c (j + 1))))] (n, s, h116n10)
            refine WX.s1 (L' := [(0, .ref m), (1, .int (qI (oneK (tN c (j + 1))))), (2, .int (nI v))]) rfl rfl ?_
            refine WX.s1 rfl rfl ?_
            refine WX.s1 rfl rfl ?_
            refine WX.callC (vs := [.ref m, .int (qI (oneK (tN c (j + 1))))]) rfl rfl rfl (Nat.le_of_ble_eq_true rfl) (M_h116n10.rcv hm) ?_
            refine m_least (x := tN c (j + 1)) hm M_h116n10 hkn2 (by omega) (by omega) (tK_bd hc) K2_52 ?_
            show WX _ _ _ 130 [(0, .ref m), (1, .int (qI (oneK (tN c (j + 1))))), (2, .int (nI v))] [.int (qI (twoK (tN c (j + 1))))] (n, s, h116n10)
            refine WX.s1 (L' := [(0, .ref m), (1, .int (qI (oneK (tN c (j + 1))))), (2, .int (qI (twoK (tN c (j + 1)))))]) rfl rfl ?_
            refine WX.s1 rfl rfl ?_
            exact ih2 (j + 1) h116n10 I116n10 A108n9 (by omega) (by rw [show frees (tN c (j + 1)) = frees (tS (tN c j)) from rfl]; omega) hx2 FR_h116n10 M_h116n10 FI_I116n10 FA2 K2_52 hkn2
      exact lp2 256 0 hL IL AL (by omega) (by have := frees_0 c; omega) rfl FR_hL M_hL FI_IL FA_AL K_IL_52 hkn0
    | succ t ih =>
      intro i hL IL AL hi FR_hL M_hL FI_IL FA_AL K_IL_52 hv
      refine WX.s1 rfl rfl ?_
      refine WX.s1 rfl rfl ?_
      refine WX.icmp rfl (fun c_13 => absurd c_13 (fun zz_ => absurd ((nI_leI (a := 256) (b := i) (by omega) (by omega)).mp zz_) (Nat.not_le.mpr (by omega)))) (fun c_13 => ?_)
      clear c_13
      refine WX.s1 rfl rfl ?_
      refine WX.mget rfl hm M_hL rfl ?_
      refine WX.s1 rfl rfl ?_
      refine WX.s1 rfl rfl ?_
      refine WX.mget rfl hm M_hL rfl ?_
      refine WX.s1 rfl rfl ?_
      refine WX.mald (c := 34) rfl hm M_hL (by decide) (by decide) (by decide) (by decide) (vp_in_nI (N := 256) (by omega) (by decide)) ?_
      rw [nI_clamp (by omega), FA_AL 34 (by decide), hh i (by omega)]
      refine WX.mast (c := 35) rfl hm M_hL (by decide) (by decide) (by decide) (by decide) (vp_in_nI (N := 512) (by omega) (by decide)) (fun h27n11 A27n11 e_A27n11 M_h27n11 frh27n11 => ?_)
      try dsimp only at e_A27n11
      have FR_h27n11 := FR_hL.ztr frh27n11
      clear M_hL FR_hL frh27n11
      refine WX.s1 rfl rfl ?_
      refine WX.mget rfl hm M_h27n11 rfl ?_
      refine WX.s1 rfl rfl ?_
      refine WX.s1 rfl rfl ?_
      refine WX.mast (c := 36) rfl hm M_h27n11 (by decide) (by decide) (by decide) (by decide) (vp_in_nI (N := 512) (by omega) (by decide)) (fun h34n12 A34n12 e_A34n12 M_h34n12 frh34n12 => ?_)
      try dsimp only at e_A34n12
      have FR_h34n12 := FR_h27n11.ztr frh34n12
      clear M_h27n11 FR_h27n11 frh34n12
      refine WX.s1 (L' := [(0, .ref m), (1, .int ((nI i) + 1))]) rfl rfl ?_
      rw [show ((nI i) + 1) = nI (i + 1) from nI_add i 1]
      refine WX.s1 rfl rfl ?_
      rw [nI_clamp (by omega)] at e_A27n11 e_A34n12
      refine ih (i + 1) h34n12 IL A34n12 (by omega) FR_h34n12 M_h34n12 FI_IL ((FA_AL.ast e_A27n11 (by omega)).ast e_A34n12 (by omega)) K_IL_52 (fun q hq => ?_)
      rw [e_A34n12, upA_ne (by decide), upA_same, e_A27n11, upA_ne (c := 35) (b := 36) (by decide), upA_same]
      by_cases z : q = i
      · rw [z, pk_us, pk_us]; exact ⟨rfl, rfl⟩
      · rw [pk_un z, pk_un z]; exact hv q (by omega)
  exact lp 256 0 h4n1 I4n1 AR (by omega) FR_h4n1 M_h4n1 FI_I4n1 FA_AR K_I4n1_52 (fun q hq => absurd hq (Nat.not_lt_zero q))
