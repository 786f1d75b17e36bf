/-! a description read: the reference -/
set_option maxRecDepth 20000 in
theorem m_dsE {d n s : Nat} {h : Nat → aE} {m : Nat} {I : Nat → Int32} {AR : Nat → Nat → Int32} {LN : Nat → Int64} {ws : List Nat} {ev : Int32} (hm : m + 43 < n) (M_h : MAt h m I AR LN) (hw1 : 1 ≤ (ws).length) (hw2 : (ws).length < 256) (hw15 : ∀ i, (ws).getD i 0 ≤ 15) (hW : WsM I AR ws)  {Ψ : Option Value → aH → Prop} (k0 : setF ws = none → ∀ h' I' A', Fr h h' (inM m) → MAt h' m I' A' LN → Fi I I' (fun f => f = 56 ∨ f = 57 ∨ f = 60 ∨ f = 61) → FaS AR A' (fun b => (26 ≤ b ∧ b ≤ 30) ∨ b = 37 ∨ b = 39) → Ψ (some (.int (-1))) (n, s, h')) (k1 : ∀ x, setF ws = some x → ∀ h' I' A', Fr h h' (inM m) → MAt h' m I' A' LN → Fi I I' (fun f => f = 56 ∨ f = 57 ∨ f = 60 ∨ f = 61) → FaS AR A' (fun b => (26 ≤ b ∧ b ≤ 30) ∨ b = 37 ∨ b = 39) → (∀ s, s < 256 → A' 37 s = nI (x.1 s)) → Ψ (some (.int ev)) (n, s, h')) : WX (lk tX12_readDescription) (mM (d + 1)) Ψ 145 [(0, .ref m), (3, .int ev)] [] (n, s, h) := by
  have FR_h : Fr h h (inM m) := Fr.rf
  have FI_I : Fi I I (fun f => f = 56 ∨ f = 57 ∨ f = 60 ∨ f = 61) := Fi.rf
  have FA_AR : FaS AR AR (fun b => (26 ≤ b ∧ b ≤ 30) ∨ b = 37 ∨ b = 39) := FaS.rf
  have K_I_56 : I 56 = nI (ws).length := hW.1
  have hsb := wS_bd hw15
  have hon := onN_le (stV ws)
  refine WX.s1 rfl rfl ?_
  refine WX.s1 (L' := [(0, .ref m), (3, .int ev), (4, .int 0)]) rfl rfl ?_
  refine WX.s1 rfl rfl ?_
  refine WX.s1 (L' := [(0, .ref m), (3, .int ev), (4, .int 0), (5, .int 0)]) rfl rfl ?_
  have lp : ∀ (t i : Nat), i + t = (ws).length → WX (lk tX12_readDescription) (mM (d + 1)) Ψ 151 [(0, .ref m), (3, .int ev), (4, .int (nI (wS ws i))), (5, .int (nI i))] [] (n, s, h) := by
    intro t
    induction t with
    | zero =>
      intro i ht
      obtain rfl : i = (ws).length := by omega
      refine WX.s1 rfl rfl ?_
      refine WX.s1 rfl rfl ?_
      refine WX.mgetK (x := (nI (ws).length)) rfl hm M_h rfl K_I_56 ?_
      refine WX.icmp rfl (fun c_157 => ?_) (fun c_157 => absurd ((nI_leI (a := (ws).length) (b := (ws).length) (by omega) (by omega)).mpr (by omega)) c_157)
      clear c_157
      have hsk := hsb (ws).length
      refine WX.s1 rfl rfl ?_
      refine WX.if_ rfl (fun c_198 => ?_) (fun c_198 => ?_)
      · skip
        have n_198 : ¬ (wS ws (ws).length) = 0 := fun zz_ => c_198 ((nI_eq (a := wS ws (ws).length) (b := 0) (by omega) (by omega)).mpr zz_)
        have c1 : wS ws (ws).length ≠ 0 := by omega
        obtain ⟨b1, b2, b3, b4, b5⟩ := st_bd c1
        have hT1 : 1 ≤ stT ws := by unfold stT; omega
        have hT22 : stT ws ≤ 23 := by
          apply Classical.byContradiction
          intro z
          have := Nat.pow_le_pow_right (show 0 < 2 by decide) (show 23 ≤ stT ws - 1 by omega)
          omega
        have hlr : Nat.log2 (stR ws) + 1 ≤ stT ws := by have q := st_wle c1 (Nat.le_refl (ws).length); rw [stV_hi] at q; exact q
        have h23 : 2 ^ stT ws ≤ 2 ^ 23 := Nat.pow_le_pow_right (by decide) hT22
        refine WX.s1 rfl rfl ?_
        refine WX.callC (vs := [.int (nI (wS ws (ws).length))]) rfl rfl rfl (Nat.le_of_ble_eq_true rfl) rfl ?_
        refine m_log (d := d) (by omega) (by omega) (fun g hg1 hg2 => ?_)
        obtain rfl := lg2_uq (by omega) hg1 hg2
        show WX _ _ _ 208 [(0, .ref m), (3, .int ev), (4, .int (nI (wS ws (ws).length))), (5, .int (nI (ws).length))] [.int (nI (Nat.log2 (wS ws (ws).length)))] (n, s, h)
        refine WX.s1 rfl rfl ?_
        refine WX.s1 (S' := [.int ((nI (Nat.log2 (wS ws (ws).length))) + 1)]) rfl rfl ?_
        rw [show nI (Nat.log2 (wS ws (ws).length)) + 1 = nI (stT ws) from nI_1 _]
        refine WX.s1 (L' := [(0, .ref m), (3, .int ev), (4, .int (nI (wS ws (ws).length))), (5, .int (nI (stT ws)))]) rfl rfl ?_
        refine WX.s1 rfl rfl ?_
        refine WX.s1 rfl rfl ?_
        refine WX.s1 (S' := [.int (1 <<< ((nI (stT ws)) &&& 31))]) rfl rfl ?_
        rw [sh1 (stT ws) (by omega)]
        refine WX.s1 rfl rfl ?_
        refine WX.s1 (S' := [.int ((nI (2 ^ stT ws)) - (nI (wS ws (ws).length)))]) rfl rfl ?_
        rw [show nI (2 ^ stT ws) - nI (wS ws (ws).length) = nI (stR ws) from nI_subN (by omega)]
        refine WX.s1 (L' := [(0, .ref m), (3, .int ev), (4, .int (nI (wS ws (ws).length))), (5, .int (nI (stT ws))), (6, .int (nI (stR ws)))]) rfl rfl ?_
        refine WX.s1 rfl rfl ?_
        refine WX.s1 rfl rfl ?_
        refine WX.icmp rfl (fun c_225 => ?_) (fun c_225 => ?_)
        · skip
          have n_225 : 11 < (stT ws) := (nI_ltI (a := 11) (b := stT ws) (by omega) (by omega)).mp c_225
          refine WX.s1 rfl rfl ?_
          exact WX.ret1 rfl (k0 (by unfold setF; rw [if_pos (Or.inr (Or.inl (by omega)))]) h I AR FR_h M_h FI_I FA_AR)
        · skip
          have n_225 : (stT ws) ≤ 11 := Nat.le_of_not_lt (fun zz_ => c_225 ((nI_ltI (a := 11) (b := stT ws) (by omega) (by omega)).mpr zz_))
          refine WX.s1 rfl rfl ?_
          refine WX.s1 rfl rfl ?_
          refine WX.callC (vs := [.int (nI (stR ws))]) rfl rfl rfl (Nat.le_of_ble_eq_true rfl) rfl ?_
          refine m_log (d := d) (by omega) (by omega) (fun g hg1 hg2 => ?_)
          obtain rfl := lg2_uq (by omega) hg1 hg2
          show WX _ _ _ 234 [(0, .ref m), (3, .int ev), (4, .int (nI (wS ws (ws).length))), (5, .int (nI (stT ws))), (6, .int (nI (stR ws)))] [.int (nI (Nat.log2 (stR ws))), .int 1] (n, s, h)
          refine WX.s1 (S' := [.int (1 <<< ((nI (Nat.log2 (stR ws))) &&& 31))]) rfl rfl ?_
          rw [sh1 (Nat.log2 (stR ws)) (by omega)]
          have hpl := (lg2_ok b3).1
          refine WX.s1 rfl rfl ?_
          refine WX.icmp rfl (fun c_237 => ?_) (fun c_237 => ?_)
          · skip
            have n_237 : (2 ^ Nat.log2 (stR ws)) = (stR ws) := (nI_eq (a := 2 ^ Nat.log2 (stR ws)) (b := stR ws) (by omega) (by omega)).mp c_237
            refine WX.s1 rfl rfl ?_
            refine WX.mget rfl hm M_h rfl ?_
            refine WX.s1 rfl rfl ?_
            refine WX.mgetK (x := (nI (ws).length)) rfl hm M_h rfl K_I_56 ?_
            refine WX.s1 rfl rfl ?_
            refine WX.callC (vs := [.int (nI (stR ws))]) rfl rfl rfl (Nat.le_of_ble_eq_true rfl) rfl ?_
            refine m_log (d := d) (by omega) (by omega) (fun g hg1 hg2 => ?_)
            obtain rfl := lg2_uq (by omega) hg1 hg2
            show WX _ _ _ 255 [(0, .ref m), (3, .int ev), (4, .int (nI (wS ws (ws).length))), (5, .int (nI (stT ws))), (6, .int (nI (stR ws)))] [.int (nI (Nat.log2 (stR ws))), .int (nI (ws).length), .ref (m + 39)] (n, s, h)
            refine WX.s1 rfl rfl ?_
            refine WX.s1 (S' := [.int ((nI (Nat.log2 (stR ws))) + 1), .int (nI (ws).length), .ref (m + 39)]) rfl rfl ?_
            rw [show nI (Nat.log2 (stR ws)) + 1 = nI (Nat.log2 (stR ws) + 1) from nI_1 _]
            refine WX.mast (c := 39) rfl hm M_h (by decide) (by decide) (by decide) (by decide) (vp_in_nI (N := 257) (by omega) (by decide)) (fun h257n1 A257n1 e_A257n1 M_h257n1 frh257n1 => ?_)
            try dsimp only at e_A257n1
            have FR_h257n1 := (FR_h).ztr frh257n1
            clear M_h FR_h frh257n1
            rw [nI_clamp (by omega)] at e_A257n1
            have hv : ∀ i, i ≤ (ws).length → A257n1 39 i = nI ((stV ws).getD i 0) := fun i hi => by
              by_cases z : i = (ws).length
              · rw [z, e_A257n1, upA_same, pk_us, stV_hi]
              · rw [e_A257n1, upA_same, pk_un z, stV_lo (by omega)]; exact hW.2 i (by omega)
            have FA_A257n1 : FaS AR A257n1 (fun b => (26 ≤ b ∧ b ≤ 30) ∨ b = 37 ∨ b = 39) := (FA_AR).ast e_A257n1 (by omega)
            refine WX.s1 rfl rfl ?_
            refine WX.s1 (L' := [(0, .ref m), (3, .int ev), (4, .int (nI (wS ws (ws).length))), (5, .int (nI (stT ws))), (6, .int (nI (stR ws))), (7, .int 0)]) rfl rfl ?_
            refine WX.s1 rfl rfl ?_
            refine WX.s1 (L' := [(0, .ref m), (3, .int ev), (4, .int (nI (wS ws (ws).length))), (5, .int (nI (stT ws))), (6, .int (nI (stR ws))), (7, .int 0), (8, .int 0)]) rfl rfl ?_
            refine WX.keep (y := 219) [0, 3, 5, 7, 8] (show ([0, 3, 4, 5, 6, 7, 8] : List Nat).Nodup by decide) rfl ?_
            have lp2 : ∀ (t i : Nat), i + t = (ws).length + 1 → WX (lk tX12_readDescription) (mM (d + 1)) Ψ 264 [(0, .ref m), (3, .int ev), (5, .int (nI (stT ws))), (7, .int (nI (onN (stV ws) i))), (8, .int (nI i))] [] (n, s, h257n1) := by
              intro t
              induction t with
              | zero =>
                intro i ht
                obtain rfl : i = (ws).length + 1 := by omega
                have hok := hon ((ws).length + 1)
                refine WX.s1 rfl rfl ?_
                refine WX.s1 rfl rfl ?_
                refine WX.mgetK (x := (nI (ws).length)) rfl hm M_h257n1 rfl K_I_56 ?_
                refine WX.icmp rfl (fun c_270 => ?_) (fun c_270 => absurd ((nI_ltI (a := (ws).length) (b := (ws).length + 1) (by omega) (by omega)).mpr (by omega)) c_270)
                clear c_270
                refine WX.s1 rfl rfl ?_
                refine WX.s1 rfl rfl ?_
                refine WX.icmp rfl (fun c_303 => ?_) (fun c_303 => ?_)
                · skip
                  have n_303 : 2 ≤ (onN (stV ws) ((ws).length + 1)) := (nI_leI (a := 2) (b := onN (stV ws) ((ws).length + 1)) (by omega) (by omega)).mp c_303
                  refine WX.s1 rfl rfl ?_
                  refine WX.s1 (L' := [(0, .ref m), (3, .int ev), (5, .int (nI (stT ws))), (7, .int (nI (onN (stV ws) ((ws).length + 1)))), (8, .int 0)]) rfl rfl ?_
                  refine WX.keep (y := 219) [0, 3, 5, 8] (show ([0, 3, 5, 7, 8] : List Nat).Nodup by decide) rfl ?_
                  have eS : setF ws = some (stL ws, stT ws) := by unfold setF; rw [if_neg (by rintro (z | z | z | z) <;> omega)]
                  have lp3 : ∀ (t i : Nat) (hL : Nat → aE) (AL : Nat → Nat → Int32), i + t = 256 → Fr h hL (inM m) → MAt hL m I AL LN → FaS A257n1 AL (fun b => b = 37) → (∀ j, j < i → AL 37 j = nI (stL ws j)) → WX (lk tX12_readDescription) (mM (d + 1)) Ψ 311 [(0, .ref m), (3, .int ev), (5, .int (nI (stT ws))), (8, .int (nI i))] [] (n, s, hL) := by
                    clear M_h257n1 FR_h257n1
                    intro t
                    induction t with
                    | zero =>
                      intro i hL AL ht FR_hL M_hL faL hI
                      obtain rfl : i = 256 := by omega
                      refine WX.s1 rfl rfl ?_
                      refine WX.s1 rfl rfl ?_
                      refine WX.icmp rfl (fun c_316 => ?_) (fun c_316 => absurd ((nI_leI (a := 256) (b := 256) (by omega) (by omega)).mpr (by omega)) c_316)
                      clear c_316
                      refine WX.s1 rfl rfl ?_
                      exact WX.ret1 rfl (k1 _ eS hL I AL FR_hL M_hL FI_I ((FA_A257n1).ztr ((faL).mono (fun j hj => by omega))) (fun s hs => hI s hs))
                    | succ t ih =>
                      intro i hL AL ht FR_hL M_hL faL hI
                      have hvl : i ≤ (ws).length → ((stV ws).getD i 0) ≤ stT ws := fun q => st_wle c1 q
                      refine WX.s1 rfl rfl ?_
                      refine WX.s1 rfl rfl ?_
                      refine WX.icmp rfl (fun c_316 => absurd c_316 (fun zz_ => absurd ((nI_leI (a := 256) (b := i) (by omega) (by omega)).mp zz_) (Nat.not_le.mpr (by omega)))) (fun c_316 => ?_)
                      clear c_316
                      refine WX.s1 rfl rfl ?_
                      refine WX.mget rfl hm M_hL rfl ?_
                      refine WX.s1 rfl rfl ?_
                      refine WX.s1 rfl rfl ?_
                      refine WX.s1 rfl rfl ?_
                      refine WX.mgetK (x := (nI (ws).length)) rfl hm M_hL rfl K_I_56 ?_
                      refine WX.icmp rfl (fun c_331 => ?_) (fun c_331 => ?_)
                      · skip
                        have n_331 : (ws).length < i := (nI_ltI (a := (ws).length) (b := i) (by omega) (by omega)).mp c_331
                        refine WX.s1 rfl rfl ?_
                        refine WX.mast (c := 37) rfl hm M_hL (by decide) (by decide) (by decide) (by decide) (vp_in_nI (N := 256) (by omega) (by decide)) (fun h360n2 A360n2 e_A360n2 M_h360n2 frh360n2 => ?_)
                        try dsimp only at e_A360n2
                        have FR_h360n2 := (FR_hL).ztr frh360n2
                        clear M_hL FR_hL frh360n2
                        refine WX.s1 (L' := [(0, .ref m), (3, .int ev), (5, .int (nI (stT ws))), (8, .int ((nI i) + 1))]) rfl rfl ?_
                        rw [show ((nI i) + 1) = nI (i + 1) from nI_add i 1]
                        refine WX.s1 rfl rfl ?_
                        rw [nI_clamp (by omega)] at e_A360n2
                        refine ih (i + 1) h360n2 A360n2 (by omega) FR_h360n2 M_h360n2 ((faL).ast e_A360n2 rfl) (fun j hj => ?_)
                        by_cases z : j = i
                        · rw [z, e_A360n2, upA_same, pk_us]; unfold stL; rw [if_neg (fun q => absurd q.1 (by omega))]; rfl
                        · rw [e_A360n2, upA_same, pk_un z]; exact hI j (by omega)
                      · skip
                        have n_331 : i ≤ (ws).length := Nat.le_of_not_lt (fun zz_ => c_331 ((nI_ltI (a := (ws).length) (b := i) (by omega) (by omega)).mpr zz_))
                        have hvi := hvl (by omega)
                        refine WX.s1 rfl rfl ?_
                        refine WX.mget rfl hm M_hL rfl ?_
                        refine WX.s1 rfl rfl ?_
                        refine WX.mald (c := 39) rfl hm M_hL (by decide) (by decide) (by decide) (by decide) (vp_in_nI (N := 257) (by omega) (by decide)) ?_
                        rw [nI_clamp (by omega), faL 39 (by decide), hv i (by omega)]
                        refine WX.if_ rfl (fun c_341 => ?_) (fun c_341 => ?_)
                        · skip
                          have n_341 : ((stV ws).getD i 0) ≤ 0 := (nI_leI (a := (stV ws).getD i 0) (b := 0) (by omega) (by omega)).mp c_341
                          refine WX.s1 rfl rfl ?_
                          refine WX.mast (c := 37) rfl hm M_hL (by decide) (by decide) (by decide) (by decide) (vp_in_nI (N := 256) (by omega) (by decide)) (fun h360n3 A360n3 e_A360n3 M_h360n3 frh360n3 => ?_)
                          try dsimp only at e_A360n3
                          have FR_h360n3 := (FR_hL).ztr frh360n3
                          clear M_hL FR_hL frh360n3
                          refine WX.s1 (L' := [(0, .ref m), (3, .int ev), (5, .int (nI (stT ws))), (8, .int ((nI i) + 1))]) rfl rfl ?_
                          rw [show ((nI i) + 1) = nI (i + 1) from nI_add i 1]
                          refine WX.s1 rfl rfl ?_
                          rw [nI_clamp (by omega)] at e_A360n3
                          refine ih (i + 1) h360n3 A360n3 (by omega) FR_h360n3 M_h360n3 ((faL).ast e_A360n3 rfl) (fun j hj => ?_)
                          by_cases z : j = i
                          · rw [z, e_A360n3, upA_same, pk_us]; unfold stL; rw [if_neg (fun q => absurd q.2 (by omega))]; rfl
                          · rw [e_A360n3, upA_same, pk_un z]; exact hI j (by omega)
                        · skip
                          have n_341 : 0 < ((stV ws).getD i 0) := Nat.lt_of_not_le (fun zz_ => c_341 ((nI_leI (a := (stV ws).getD i 0) (b := 0) (by omega) (by omega)).mpr zz_))
                          refine WX.s1 rfl rfl ?_
                          refine WX.s1 rfl rfl ?_
                          refine WX.s1 (S' := [.int ((nI (stT ws)) + 1), .int (nI i), .ref (m + 37)]) rfl rfl ?_
                          rw [nI_1]
                          refine WX.s1 rfl rfl ?_
                          refine WX.mget rfl hm M_hL rfl ?_
                          refine WX.s1 rfl rfl ?_
                          refine WX.mald (c := 39) rfl hm M_hL (by decide) (by decide) (by decide) (by decide) (vp_in_nI (N := 257) (by omega) (by decide)) ?_
                          rw [nI_clamp (by omega), faL 39 (by decide), hv i (by omega)]
                          refine WX.s1 (S' := [.int ((nI (stT ws + 1)) - (nI ((stV ws).getD i 0))), .int (nI i), .ref (m + 37)]) rfl rfl ?_
                          rw [nI_subN (show ((stV ws).getD i 0) ≤ stT ws + 1 by omega)]
                          refine WX.s1 rfl rfl ?_
                          refine WX.mast (c := 37) rfl hm M_hL (by decide) (by decide) (by decide) (by decide) (vp_in_nI (N := 256) (by omega) (by decide)) (fun h360n4 A360n4 e_A360n4 M_h360n4 frh360n4 => ?_)
                          try dsimp only at e_A360n4
                          have FR_h360n4 := (FR_hL).ztr frh360n4
                          clear M_hL FR_hL frh360n4
                          refine WX.s1 (L' := [(0, .ref m), (3, .int ev), (5, .int (nI (stT ws))), (8, .int ((nI i) + 1))]) rfl rfl ?_
                          rw [show ((nI i) + 1) = nI (i + 1) from nI_add i 1]
                          refine WX.s1 rfl rfl ?_
                          rw [nI_clamp (by omega)] at e_A360n4
                          refine ih (i + 1) h360n4 A360n4 (by omega) FR_h360n4 M_h360n4 ((faL).ast e_A360n4 rfl) (fun j hj => ?_)
                          by_cases z : j = i
                          · rw [z, e_A360n4, upA_same, pk_us]; unfold stL; rw [if_pos ⟨by omega, by omega⟩]
                          · rw [e_A360n4, upA_same, pk_un z]; exact hI j (by omega)
                  exact lp3 256 0 h257n1 A257n1 (by omega) FR_h257n1 M_h257n1 FaS.rf (fun j hj => absurd hj (Nat.not_lt_zero j))
                · skip
                  have n_303 : (onN (stV ws) ((ws).length + 1)) < 2 := Nat.lt_of_not_le (fun zz_ => c_303 ((nI_leI (a := 2) (b := onN (stV ws) ((ws).length + 1)) (by omega) (by omega)).mpr zz_))
                  refine WX.s1 rfl rfl ?_
                  exact WX.ret1 rfl (k0 (by unfold setF; rw [if_pos (Or.inr (Or.inr (Or.inr (by omega))))]) h257n1 I A257n1 FR_h257n1 M_h257n1 FI_I FA_A257n1)
              | succ t ih =>
                intro i ht
                have hoi := hon i
                have hvl : ((stV ws).getD i 0) ≤ stT ws := st_wle c1 (by omega)
                refine WX.s1 rfl rfl ?_
                refine WX.s1 rfl rfl ?_
                refine WX.mgetK (x := (nI (ws).length)) rfl hm M_h257n1 rfl K_I_56 ?_
                refine WX.icmp rfl (fun c_270 => absurd c_270 (fun zz_ => absurd ((nI_ltI (a := (ws).length) (b := i) (by omega) (by omega)).mp zz_) (Nat.not_lt.mpr (by omega)))) (fun c_270 => ?_)
                clear c_270
                have t291 : ∀ (y : Nat), y = (if ((stV ws).getD i 0) = 1 then 1 else 0) → WX (lk tX12_readDescription) (mM (d + 1)) Ψ 291 [(0, .ref m), (3, .int ev), (5, .int (nI (stT ws))), (7, .int (nI (onN (stV ws) i))), (8, .int (nI i))] [.int (nI y), .int (nI (onN (stV ws) i))] (n, s, h257n1) := by
                  intro y ey
                  have eo : onN (stV ws) i + y = onN (stV ws) (i + 1) := by rw [ey]; rfl
                  refine WX.s1 (S' := [.int ((nI (onN (stV ws) i)) + (nI y))]) rfl rfl ?_
                  rw [nI_add, eo]
                  refine WX.s1 (L' := [(0, .ref m), (3, .int ev), (5, .int (nI (stT ws))), (7, .int (nI (onN (stV ws) (i + 1)))), (8, .int (nI i))]) rfl rfl ?_
                  refine WX.s1 (L' := [(0, .ref m), (3, .int ev), (5, .int (nI (stT ws))), (7, .int (nI (onN (stV ws) (i + 1)))), (8, .int ((nI i) + 1))]) rfl rfl ?_
                  rw [show ((nI i) + 1) = nI (i + 1) from nI_add i 1]
                  refine WX.s1 rfl rfl ?_
                  exact ih (i + 1) (by omega)
                refine WX.s1 rfl rfl ?_
                refine WX.s1 rfl rfl ?_
                refine WX.mget rfl hm M_h257n1 rfl ?_
                refine WX.s1 rfl rfl ?_
                refine WX.mald (c := 39) rfl hm M_h257n1 (by decide) (by decide) (by decide) (by decide) (vp_in_nI (N := 257) (by omega) (by decide)) ?_
                rw [nI_clamp (by omega), hv i (by omega)]
                refine WX.s1 rfl rfl ?_
                refine WX.icmp rfl (fun c_283 => ?_) (fun c_283 => ?_)
                · skip
                  have n_283 : ¬ ((stV ws).getD i 0) = 1 := fun zz_ => c_283 ((nI_eq (a := (stV ws).getD i 0) (b := 1) (by omega) (by omega)).mpr zz_)
                  refine WX.s1 rfl rfl ?_
                  exact t291 _ (by rw [if_neg (by omega)])
                · skip
                  have n_283 : ((stV ws).getD i 0) = 1 := (nI_eq (a := (stV ws).getD i 0) (b := 1) (by omega) (by omega)).mp (Classical.not_not.mp c_283)
                  refine WX.s1 rfl rfl ?_
                  refine WX.s1 rfl rfl ?_
                  exact t291 _ (by rw [if_pos (by omega)])
            exact lp2 ((ws).length + 1) 0 (by omega)
          · skip
            have n_237 : ¬ (2 ^ Nat.log2 (stR ws)) = (stR ws) := fun zz_ => c_237 ((nI_eq (a := 2 ^ Nat.log2 (stR ws)) (b := stR ws) (by omega) (by omega)).mpr zz_)
            refine WX.s1 rfl rfl ?_
            exact WX.ret1 rfl (k0 (by unfold setF; rw [if_pos (Or.inr (Or.inr (Or.inl (by omega))))]) h I AR FR_h M_h FI_I FA_AR)
      · skip
        have n_198 : (wS ws (ws).length) = 0 := (nI_eq (a := wS ws (ws).length) (b := 0) (by omega) (by omega)).mp (Classical.not_not.mp c_198)
        refine WX.s1 rfl rfl ?_
        exact WX.ret1 rfl (k0 (by unfold setF; rw [if_pos (Or.inl (by omega))]) h I AR FR_h M_h FI_I FA_AR)
    | succ t ih =>
      intro i ht
      have hwi := hw15 i
      have hsi := hsb i
      refine WX.s1 rfl rfl ?_
      refine WX.s1 rfl rfl ?_
      refine WX.mgetK (x := (nI (ws).length)) rfl hm M_h rfl K_I_56 ?_
      refine WX.icmp rfl (fun c_157 => absurd c_157 (fun zz_ => absurd ((nI_leI (a := (ws).length) (b := i) (by omega) (by omega)).mp zz_) (Nat.not_le.mpr (by omega)))) (fun c_157 => ?_)
      clear c_157
      have t187 : ∀ (x : Nat), x = (if ((ws).getD i 0) = 0 then 0 else 2 ^ (((ws).getD i 0) - 1)) → WX (lk tX12_readDescription) (mM (d + 1)) Ψ 187 [(0, .ref m), (3, .int ev), (4, .int (nI (wS ws i))), (5, .int (nI i))] [.int (nI x), .int (nI (wS ws i))] (n, s, h) := by
        intro x ex
        have es : wS ws i + x = wS ws (i + 1) := by rw [ex]; rfl
        have hsj := hsb (i + 1)
        refine WX.s1 (S' := [.int ((nI (wS ws i)) + (nI x))]) rfl rfl ?_
        rw [nI_add, es]
        refine WX.s1 (L' := [(0, .ref m), (3, .int ev), (4, .int (nI (wS ws (i + 1)))), (5, .int (nI i))]) rfl rfl ?_
        refine WX.s1 (L' := [(0, .ref m), (3, .int ev), (4, .int (nI (wS ws (i + 1)))), (5, .int ((nI i) + 1))]) rfl rfl ?_
        rw [show ((nI i) + 1) = nI (i + 1) from nI_add i 1]
        refine WX.s1 rfl rfl ?_
        exact ih (i + 1) (by omega)
      refine WX.s1 rfl rfl ?_
      refine WX.s1 rfl rfl ?_
      refine WX.mget rfl hm M_h rfl ?_
      refine WX.s1 rfl rfl ?_
      refine WX.mald (c := 39) rfl hm M_h (by decide) (by decide) (by decide) (by decide) (vp_in_nI (N := 257) (by omega) (by decide)) ?_
      rw [nI_clamp (by omega), hW.2 i (by omega)]
      refine WX.if_ rfl (fun c_169 => ?_) (fun c_169 => ?_)
      · skip
        have n_169 : ((ws).getD i 0) ≤ 0 := (nI_leI (a := (ws).getD i 0) (b := 0) (by omega) (by omega)).mp c_169
        refine WX.s1 rfl rfl ?_
        exact t187 _ (by rw [if_pos (by omega)])
      · skip
        have n_169 : 0 < ((ws).getD i 0) := Nat.lt_of_not_le (fun zz_ => c_169 ((nI_leI (a := (ws).getD i 0) (b := 0) (by omega) (by omega)).mpr zz_))
        refine WX.s1 rfl rfl ?_
        refine WX.s1 rfl rfl ?_
        refine WX.mget rfl hm M_h rfl ?_
        refine WX.s1 rfl rfl ?_
        refine WX.mald (c := 39) rfl hm M_h (by decide) (by decide) (by decide) (by decide) (vp_in_nI (N := 257) (by omega) (by decide)) ?_
        rw [nI_clamp (by omega), hW.2 i (by omega)]
        refine WX.s1 rfl rfl ?_
        refine WX.s1 (S' := [.int ((nI ((ws).getD i 0)) - 1), .int 1, .int (nI (wS ws i))]) rfl rfl ?_
        rw [show nI ((ws).getD i 0) - 1 = nI (((ws).getD i 0) - 1) from nI_pm1 (by omega)]
        refine WX.s1 (S' := [.int (1 <<< ((nI (((ws).getD i 0) - 1)) &&& 31)), .int (nI (wS ws i))]) rfl rfl ?_
        rw [sh1 (((ws).getD i 0) - 1) (by omega)]
        refine WX.s1 rfl rfl ?_
        exact t187 _ (by rw [if_neg (by omega)])
  exact lp (ws).length 0 (by omega)
theorem rsF_ok {l : List Nat} {u : Nat → Nat} {o fl : Nat} (h5 : 5 ≤ o) (h9 : o ≤ 9) (hS : mSum u 64 = 2 ^ o) (hz : ∀ j, 11 < j → u j = 1) : ∀ t c a b ws x, a < 2 ^ o → b < 2 ^ o → (∀ i, (ws).getD i 0 ≤ 11) → rsF l u o fl t c a b ws = some x → (∀ i, (x).getD i 0 ≤ 11) ∧ 2 ≤ (x).length := by
  have o11 : ∀ p, p < 2 ^ o → osF u o p ≤ 11 := fun p hp => by
    apply Classical.byContradiction
    intro z
    have q := (rn_ok h5 h9 hS hp).2.2.2.2.1
    rw [hz _ (by omega)] at q
    exact absurd q (by decide)
  intro t
  induction t with
  | zero => intro c a b ws x _ _ _ h; exact absurd h (by simp [rsF])
  | succ t ih =>
    intro c a b ws x ha hb hw h
    have hw2 : ∀ i, (ws ++ [osF u o a]).getD i 0 ≤ 11 := fun i => by
      rw [getD_app]; split
      · exact o11 a ha
      · exact hw i
    by_cases z : c - fl < wdF u o a
    · rw [rsF_0 z] at h
      rw [← Option.some.inj h]
      refine ⟨fun i => ?_, by simp⟩
      rw [getD_app]; split
      · exact o11 b hb
      · exact hw2 i
    · rw [rsF_1 z] at h
      exact ih _ _ _ _ _ hb (mv_lt h5 h9 hS ha).2.1 hw2 h
theorem rdW_ok {l : List Nat} {f e : Nat} {x : List Nat} (h : rdW l f e = some x) : (∀ i, (x).getD i 0 ≤ 11) ∧ 2 ≤ (x).length := by
  cases e1 : rdS l (8 * e) 6 11 (8 * f) with
  | none => rw [rdW_n e1] at h; exact absurd h (by simp)
  | some y =>
    obtain ⟨o, u, c⟩ := y
    obtain ⟨v1, v2, v3, v4, v5, v6⟩ := rdS_ok (by decide) e1
    obtain ⟨hS6, -, -⟩ := pad12 v1 (by omega) v3 v4
    rw [rdW_s e1] at h
    split at h
    · exact absurd h (by simp)
    · split at h
      · exact absurd h (by simp)
      · exact rsF_ok v1 (by omega) hS6 v4 _ _ _ _ _ _ (rb_lt l _ o) (rb_lt l _ o) (fun i => Nat.zero_le _) h
set_option maxRecDepth 20000 in
theorem m_rdDc {d n s : Nat} {h : Nat → aE} {m : Nat} {I : Nat → Int32} {AR : Nat → Nat → Int32} {LN : Nat → Int64} {l : List Nat} {f : Nat} (hm : m + 43 < n) (M_h : MAt h m I AR LN) (hF : InIs I AR l) (hl : ∀ i, (l).getD i 0 < 256) (hle : (l).length ≤ 8000) (hf : f ≤ 8000)  {Ψ : Option Value → aH → Prop} (k0 : rdC l f = none → ∀ h' I' A', Fr h h' (inM m) → MAt h' m I' A' LN → Fi I I' (fun f => f = 56 ∨ f = 57 ∨ f = 60 ∨ f = 61) → FaS AR A' (fun b => (26 ≤ b ∧ b ≤ 30) ∨ b = 37 ∨ b = 39) → Ψ (some (.int (-1))) (n, s, h')) (k1 : ∀ x e, rdC l f = some (x, e) → ∀ h' I' A', Fr h h' (inM m) → MAt h' m I' A' LN → Fi I I' (fun f => f = 56 ∨ f = 57 ∨ f = 60 ∨ f = 61) → FaS AR A' (fun b => (26 ≤ b ∧ b ≤ 30) ∨ b = 37 ∨ b = 39) → (∀ s, s < 256 → A' 37 s = nI (x.1 s)) → Ψ (some (.int (nI e))) (n, s, h')) : WO (mM (d + 4)) 219 [.ref m, .int (nI f)] (n, s, h) Ψ := by
  refine WO.of (Nat.le_of_ble_eq_true rfl) ?_
  have FR_h : Fr h h (inM m) := Fr.rf
  have FI_I : Fi I I (fun f => f = 56 ∨ f = 57 ∨ f = 60 ∨ f = 61) := Fi.rf
  have FA_AR : FaS AR AR (fun b => (26 ≤ b ∧ b ≤ 30) ∨ b = 37 ∨ b = 39) := FaS.rf
  have K_I_1 : I 1 = nI (l).length := hF.1
  have hx := hl f
  show WX (lk tX12_readDescription) (mM (d + 3)) Ψ 0 [(0, .ref m), (1, .int (nI f))] [] (n, s, h)
  refine WX.s1 rfl rfl ?_
  refine WX.s1 rfl rfl ?_
  refine WX.mgetK (x := (nI (l).length)) rfl hm M_h rfl K_I_1 ?_
  refine WX.icmp rfl (fun c_5 => ?_) (fun c_5 => ?_)
  · skip
    have n_5 : f < (l).length := (nI_ltI (a := f) (b := (l).length) (by omega) (by omega)).mp c_5
    refine WX.s1 rfl rfl ?_
    refine WX.mget rfl hm M_h rfl ?_
    refine WX.s1 rfl rfl ?_
    refine WX.mald (c := 1) rfl hm M_h (by decide) (by decide) (by decide) (by decide) (vp_in_nI (N := 8000) (by omega) (by decide)) ?_
    rw [nI_clamp (by omega), hF.2 f (by omega)]
    refine WX.s1 (L' := [(0, .ref m), (1, .int (nI f)), (2, .int (nI ((l).getD f 0)))]) rfl rfl ?_
    have t36 : ∀ (nb : Nat), f + 1 + nb = (dsE l f) → nb < 256 → WX (lk tX12_readDescription) (mM (d + 3)) Ψ 36 [(0, .ref m), (1, .int (nI f)), (2, .int (nI ((l).getD f 0)))] [.int (nI nb), .int (nI (f + 1))] (n, s, h) := by
      intro nb enb hnb
      refine WX.s1 (S' := [.int ((nI (f + 1)) + (nI nb))]) rfl rfl ?_
      rw [nI_add, enb]
      refine WX.s1 (L' := [(0, .ref m), (1, .int (nI f)), (2, .int (nI ((l).getD f 0))), (3, .int (nI (dsE l f)))]) rfl rfl ?_
      refine WX.s1 rfl rfl ?_
      refine WX.s1 rfl rfl ?_
      refine WX.mgetK (x := (nI (l).length)) rfl hm M_h rfl K_I_1 ?_
      refine WX.icmp rfl (fun c_43 => ?_) (fun c_43 => ?_)
      · skip
        have n_43 : (dsE l f) ≤ (l).length := (nI_leI (a := dsE l f) (b := (l).length) (by omega) (by omega)).mp c_43
        refine WX.s1 rfl rfl ?_
        refine WX.s1 rfl rfl ?_
        refine WX.icmp rfl (fun c_51 => ?_) (fun c_51 => ?_)
        · skip
          have n_51 : ((l).getD f 0) ≤ 127 := (nI_leI (a := (l).getD f 0) (b := 127) (by omega) (by omega)).mp c_51
          refine WX.s1 rfl rfl ?_
          refine WX.s1 rfl rfl ?_
          refine WX.s1 rfl rfl ?_
          refine WX.s1 (S' := [.int ((nI f) + 1), .ref m]) rfl rfl ?_
          rw [show ((nI f) + 1) = nI (f + 1) from nI_add f 1]
          refine WX.s1 rfl rfl ?_
          have eD : dsW l f = rdW l (f + 1) (dsE l f) := by unfold dsW; rw [if_neg (by omega)]
          have hEf : f < (dsE l f) := by unfold dsE; omega
          refine WX.callC (vs := [.ref m, .int (nI (f + 1)), .int (nI (dsE l f))]) rfl rfl rfl (Nat.le_of_ble_eq_true rfl) ((M_h).rcv hm) ?_
          refine m_rdWt (d := d) (f := f + 1) (e := (dsE l f)) hm M_h hF hl hle (by omega) (by omega) (by omega) (fun zr h7 I7 A7 fr7 M_h7 fi7 fa7 => ?_) (fun ws zr zl h7 I7 A7 fr7 M_h7 fi7 fa7 W7 => ?_)
          · skip
            have FR_h7 := (FR_h).ztr fr7
            have FI_I7 : Fi I I7 (fun f => f = 56 ∨ f = 57 ∨ f = 60 ∨ f = 61) := fi7
            have FA_A7 : FaS AR A7 (fun b => (26 ≤ b ∧ b ≤ 30) ∨ b = 37 ∨ b = 39) := (fa7).mono (fun j hj => by omega)
            show WX _ _ _ 140 [(0, .ref m), (1, .int (nI f)), (2, .int (nI ((l).getD f 0))), (3, .int (nI (dsE l f)))] [.int 0] (n, s, h7)
            refine WX.if_ rfl (fun c_140 => absurd c_140 (by decide)) (fun c_140 => ?_)
            clear c_140
            refine WX.s1 rfl rfl ?_
            refine WX.ret1 rfl (k0 ?_ h7 I7 A7 FR_h7 M_h7 FI_I7 FA_A7)
            rcases zr with z | ⟨w2, z, z2⟩
            · exact rdC_n (by omega) (by omega) ((eD).trans z)
            · exact rdC_w (by omega) (by omega) ((eD).trans z) (Or.inl (by omega))
          · skip
            have FR_h7 := (FR_h).ztr fr7
            have FI_I7 : Fi I I7 (fun f => f = 56 ∨ f = 57 ∨ f = 60 ∨ f = 61) := fi7
            have FA_A7 : FaS AR A7 (fun b => (26 ≤ b ∧ b ≤ 30) ∨ b = 37 ∨ b = 39) := (fa7).mono (fun j hj => by omega)
            show WX _ _ _ 140 [(0, .ref m), (1, .int (nI f)), (2, .int (nI ((l).getD f 0))), (3, .int (nI (dsE l f)))] [.int 1] (n, s, h7)
            refine WX.if_ rfl (fun c_140 => ?_) (fun c_140 => absurd (by decide) c_140)
            clear c_140
            refine WX.keep (y := 219) [0, 3] (show ([0, 1, 2, 3] : List Nat).Nodup by decide) rfl ?_
            have eW : dsW l f = some ws := (eD).trans zr
            have hg := rdW_ok zr
            have h15 : ∀ i, (ws).getD i 0 ≤ 15 := fun i => Nat.le_trans (hg.1 i) (by decide)
            exact m_dsE (d := d + 2) (ws := ws) hm M_h7 (by have := hg.2; omega) (zl) h15 (W7) (fun z h9 I9 A9 f9 M9 i9 a9 => k0 (rdC_w (by omega) (by omega) eW (Or.inr z)) h9 I9 A9 ((FR_h7).ztr f9) M9 ((FI_I7).ztr i9) ((FA_A7).ztr a9)) (fun x z h9 I9 A9 f9 M9 i9 a9 => k1 x _ (rdC_s (by omega) (by omega) eW (zl) z) h9 I9 A9 ((FR_h7).ztr f9) M9 ((FI_I7).ztr i9) ((FA_A7).ztr a9))
        · skip
          have n_51 : 127 < ((l).getD f 0) := Nat.lt_of_not_le (fun zz_ => c_51 ((nI_leI (a := (l).getD f 0) (b := 127) (by omega) (by omega)).mpr zz_))
          refine WX.s1 rfl rfl ?_
          refine WX.s1 rfl rfl ?_
          refine WX.s1 rfl rfl ?_
          refine WX.s1 (S' := [.int ((nI ((l).getD f 0)) - 127), .ref m]) rfl rfl ?_
          rw [show nI ((l).getD f 0) - 127 = nI (((l).getD f 0) - 127) from nI_subN (b := 127) (by omega)]
          refine WX.mput rfl hm M_h (rfl) (by decide) (fun _ => rfl) (fun h59n1 I59n1 e_I59n1 M_h59n1 frh59n1 => ?_)
          have FR_h59n1 := (FR_h).ztr frh59n1
          have FI_I59n1 : Fi I I59n1 (fun f => f = 56 ∨ f = 57 ∨ f = 60 ∨ f = 61) := (FI_I).zup e_I59n1 (by first | exact rfl | decide | omega)
          have K_I59n1_1 : I59n1 1 = (nI (l).length) := by rw [e_I59n1]; exact (pk_un (by decide)).trans K_I_1
          have K_I59n1_56 : I59n1 56 = (nI (((l).getD f 0) - 127)) := by rw [e_I59n1]; exact pk_us
          clear M_h FR_h FI_I e_I59n1 frh59n1 K_I_1
          have eW : dsW l f = some ((List.range (((l).getD f 0) - 127)).map (drF l (f + 1))) := by unfold dsW; rw [if_pos (by omega)]
          have hDl : ((List.range (((l).getD f 0) - 127)).map (drF l (f + 1))).length = ((l).getD f 0) - 127 := by rw [List.length_map, List.length_range]
          refine WX.s1 rfl rfl ?_
          refine WX.s1 (L' := [(0, .ref m), (1, .int (nI f)), (2, .int (nI ((l).getD f 0))), (3, .int (nI (dsE l f))), (4, .int 0)]) rfl rfl ?_
          have lp : ∀ (t i : Nat) (hL : Nat → aE) (AL : Nat → Nat → Int32), i + t = ((l).getD f 0) - 127 → Fr h hL (inM m) → MAt hL m I59n1 AL LN → FaS AR AL (fun b => b = 39) → (∀ j, j < i → AL 39 j = nI (drF l (f + 1) j)) → WX (lk tX12_readDescription) (mM (d + 3)) Ψ 65 [(0, .ref m), (1, .int (nI f)), (2, .int (nI ((l).getD f 0))), (3, .int (nI (dsE l f))), (4, .int (nI i))] [] (n, s, hL) := by
            clear M_h59n1 FR_h59n1
            intro t
            induction t with
            | zero =>
              intro i hL AL ht FR_hL M_hL faL hI
              refine WX.s1 rfl rfl ?_
              refine WX.s1 rfl rfl ?_
              refine WX.mgetK (x := (nI (((l).getD f 0) - 127))) rfl hm M_hL rfl K_I59n1_56 ?_
              refine WX.icmp rfl (fun c_71 => ?_) (fun c_71 => absurd ((nI_leI (a := ((l).getD f 0) - 127) (b := i) (by omega) (by omega)).mpr (by omega)) c_71)
              clear c_71
              refine WX.s1 rfl rfl ?_
              refine WX.keep (y := 219) [0, 3] (show ([0, 1, 2, 3, 4] : List Nat).Nodup by decide) rfl ?_
              have h15 : ∀ i, ((List.range (((l).getD f 0) - 127)).map (drF l (f + 1))).getD i 0 ≤ 15 := fun i => by
                rw [rng_getD]; split
                · exact dr_15 hl _ _
                · exact Nat.zero_le _
              have FA_AL : FaS AR AL (fun b => (26 ≤ b ∧ b ≤ 30) ∨ b = 37 ∨ b = 39) := (faL).mono (fun j hj => by omega)
              exact m_dsE (d := d + 2) (ws := ((List.range (((l).getD f 0) - 127)).map (drF l (f + 1)))) hm M_hL (by omega) (by omega) h15 (⟨by rw [hDl]; exact K_I59n1_56, fun i hi => by rw [rng_getD, if_pos (by omega)]; exact hI i (by omega)⟩) (fun z h9 I9 A9 f9 M9 i9 a9 => k0 (rdC_w (by omega) (by omega) eW (Or.inr z)) h9 I9 A9 ((FR_hL).ztr f9) M9 ((FI_I59n1).ztr i9) ((FA_AL).ztr a9)) (fun x z h9 I9 A9 f9 M9 i9 a9 => k1 x _ (rdC_s (by omega) (by omega) eW (by omega) z) h9 I9 A9 ((FR_hL).ztr f9) M9 ((FI_I59n1).ztr i9) ((FA_AL).ztr a9))
            | succ t ih =>
              intro i hL AL ht FR_hL M_hL faL hI
              have hq := hl (f + 1 + i / 2)
              have hlen : f + 1 + i / 2 < (l).length := by have : (dsE l f) = f + 1 + (if 127 < ((l).getD f 0) then (((l).getD f 0) - 126) / 2 else ((l).getD f 0)) := rfl; rw [if_pos (by omega)] at this; omega
              refine WX.s1 rfl rfl ?_
              refine WX.s1 rfl rfl ?_
              refine WX.mgetK (x := (nI (((l).getD f 0) - 127))) rfl hm M_hL rfl K_I59n1_56 ?_
              refine WX.icmp rfl (fun c_71 => absurd c_71 (fun zz_ => absurd ((nI_leI (a := ((l).getD f 0) - 127) (b := i) (by omega) (by omega)).mp zz_) (Nat.not_le.mpr (by omega)))) (fun c_71 => ?_)
              clear c_71
              refine WX.s1 rfl rfl ?_
              refine WX.mget rfl hm M_hL rfl ?_
              refine WX.s1 rfl rfl ?_
              refine WX.s1 rfl rfl ?_
              refine WX.s1 rfl rfl ?_
              refine WX.div rfl (by decide) ?_
              rw [show nI i - nI i / 2 * 2 = nI (i % 2) from pk_rem (by omega) (by decide) (by decide)]
              refine WX.if_ rfl (fun c_84 => ?_) (fun c_84 => ?_)
              · skip
                have n_84 : ¬ (i % 2) = 0 := fun zz_ => c_84 ((nI_eq (a := i % 2) (b := 0) (by omega) (by omega)).mpr zz_)
                refine WX.s1 rfl rfl ?_
                refine WX.mget rfl hm M_hL rfl ?_
                refine WX.s1 rfl rfl ?_
                refine WX.s1 rfl rfl ?_
                refine WX.s1 (S' := [.int ((nI f) + 1), .ref (m + 1), .int (nI i), .ref (m + 39)]) rfl rfl ?_
                rw [show ((nI f) + 1) = nI (f + 1) from nI_add f 1]
                refine WX.s1 rfl rfl ?_
                refine WX.s1 rfl rfl ?_
                refine WX.div rfl (by decide) ?_
                rw [show nI i / 2 = nI (i / 2) from pk_div (by omega) (by decide) (by decide)]
                refine WX.s1 (S' := [.int ((nI (f + 1)) + (nI (i / 2))), .ref (m + 1), .int (nI i), .ref (m + 39)]) rfl rfl ?_
                rw [show ((nI (f + 1)) + (nI (i / 2))) = nI (f + 1 + i / 2) from nI_add (f + 1) (i / 2)]
                refine WX.mald (c := 1) rfl hm M_hL (by decide) (by decide) (by decide) (by decide) (vp_in_nI (N := 8000) (by omega) (by decide)) ?_
                rw [nI_clamp (by omega), faL 1 (by decide), hF.2 (f + 1 + i / 2) hlen]
                refine WX.s1 rfl rfl ?_
                refine WX.div rfl (by decide) ?_
                rw [show nI ((l).getD (f + 1 + i / 2) 0) - nI ((l).getD (f + 1 + i / 2) 0) / 16 * 16 = nI (((l).getD (f + 1 + i / 2) 0) % 16) from pk_rem (by omega) (by decide) (by decide)]
                refine WX.mast (c := 39) rfl hm M_hL (by decide) (by decide) (by decide) (by decide) (vp_in_nI (N := 257) (by omega) (by decide)) (fun h122n2 A122n2 e_A122n2 M_h122n2 frh122n2 => ?_)
                try dsimp only at e_A122n2
                have FR_h122n2 := (FR_hL).ztr frh122n2
                clear M_hL FR_hL frh122n2
                refine WX.s1 (L' := [(0, .ref m), (1, .int (nI f)), (2, .int (nI ((l).getD f 0))), (3, .int (nI (dsE l f))), (4, .int ((nI i) + 1))]) rfl rfl ?_
                rw [show ((nI i) + 1) = nI (i + 1) from nI_add i 1]
                refine WX.s1 rfl rfl ?_
                rw [nI_clamp (by omega)] at e_A122n2
                refine ih (i + 1) h122n2 A122n2 (by omega) FR_h122n2 M_h122n2 ((faL).ast e_A122n2 rfl) (fun j hj => ?_)
                by_cases z : j = i
                · rw [z, e_A122n2, upA_same, pk_us]; unfold drF; rw [if_neg (by omega)]
                · rw [e_A122n2, upA_same, pk_un z]; exact hI j (by omega)
              · skip
                have n_84 : (i % 2) = 0 := (nI_eq (a := i % 2) (b := 0) (by omega) (by omega)).mp (Classical.not_not.mp c_84)
                refine WX.s1 rfl rfl ?_
                refine WX.mget rfl hm M_hL rfl ?_
                refine WX.s1 rfl rfl ?_
                refine WX.s1 rfl rfl ?_
                refine WX.s1 (S' := [.int ((nI f) + 1), .ref (m + 1), .int (nI i), .ref (m + 39)]) rfl rfl ?_
                rw [show ((nI f) + 1) = nI (f + 1) from nI_add f 1]
                refine WX.s1 rfl rfl ?_
                refine WX.s1 rfl rfl ?_
                refine WX.div rfl (by decide) ?_
                rw [show nI i / 2 = nI (i / 2) from pk_div (by omega) (by decide) (by decide)]
                refine WX.s1 (S' := [.int ((nI (f + 1)) + (nI (i / 2))), .ref (m + 1), .int (nI i), .ref (m + 39)]) rfl rfl ?_
                rw [show ((nI (f + 1)) + (nI (i / 2))) = nI (f + 1 + i / 2) from nI_add (f + 1) (i / 2)]
                refine WX.mald (c := 1) rfl hm M_hL (by decide) (by decide) (by decide) (by decide) (vp_in_nI (N := 8000) (by omega) (by decide)) ?_
                rw [nI_clamp (by omega), faL 1 (by decide), hF.2 (f + 1 + i / 2) hlen]
                refine WX.s1 rfl rfl ?_
                refine WX.div rfl (by decide) ?_
                rw [show nI ((l).getD (f + 1 + i / 2) 0) / 16 = nI (((l).getD (f + 1 + i / 2) 0) / 16) from pk_div (by omega) (by decide) (by decide)]
                refine WX.s1 rfl rfl ?_
                refine WX.mast (c := 39) rfl hm M_hL (by decide) (by decide) (by decide) (by decide) (vp_in_nI (N := 257) (by omega) (by decide)) (fun h122n3 A122n3 e_A122n3 M_h122n3 frh122n3 => ?_)
                try dsimp only at e_A122n3
                have FR_h122n3 := (FR_hL).ztr frh122n3
                clear M_hL FR_hL frh122n3
                refine WX.s1 (L' := [(0, .ref m), (1, .int (nI f)), (2, .int (nI ((l).getD f 0))), (3, .int (nI (dsE l f))), (4, .int ((nI i) + 1))]) rfl rfl ?_
                rw [show ((nI i) + 1) = nI (i + 1) from nI_add i 1]
                refine WX.s1 rfl rfl ?_
                rw [nI_clamp (by omega)] at e_A122n3
                refine ih (i + 1) h122n3 A122n3 (by omega) FR_h122n3 M_h122n3 ((faL).ast e_A122n3 rfl) (fun j hj => ?_)
                by_cases z : j = i
                · rw [z, e_A122n3, upA_same, pk_us]; unfold drF; rw [if_pos (by omega)]
                · rw [e_A122n3, upA_same, pk_un z]; exact hI j (by omega)
          exact lp (((l).getD f 0) - 127) 0 h59n1 AR (by omega) FR_h59n1 M_h59n1 FaS.rf (fun j hj => absurd hj (Nat.not_lt_zero j))
      · skip
        have n_43 : (l).length < (dsE l f) := Nat.lt_of_not_le (fun zz_ => c_43 ((nI_leI (a := dsE l f) (b := (l).length) (by omega) (by omega)).mpr zz_))
        refine WX.s1 rfl rfl ?_
        exact WX.ret1 rfl (k0 (rdC_1 (by omega) (by omega)) h I AR FR_h M_h FI_I FA_AR)
    refine WX.s1 rfl rfl ?_
    refine WX.s1 rfl rfl ?_
    refine WX.s1 (S' := [.int ((nI f) + 1)]) rfl rfl ?_
    rw [show ((nI f) + 1) = nI (f + 1) from nI_add f 1]
    refine WX.s1 rfl rfl ?_
    refine WX.s1 rfl rfl ?_
    refine WX.icmp rfl (fun c_23 => ?_) (fun c_23 => ?_)
    · skip
      have n_23 : ((l).getD f 0) ≤ 127 := (nI_leI (a := (l).getD f 0) (b := 127) (by omega) (by omega)).mp c_23
      refine WX.s1 rfl rfl ?_
      exact t36 _ (by unfold dsE; rw [if_neg (by omega)]) (by omega)
    · skip
      have n_23 : 127 < ((l).getD f 0) := Nat.lt_of_not_le (fun zz_ => c_23 ((nI_leI (a := (l).getD f 0) (b := 127) (by omega) (by omega)).mpr zz_))
      refine WX.s1 rfl rfl ?_
      refine WX.s1 rfl rfl ?_
      refine WX.s1 (S' := [.int ((nI ((l).getD f 0)) - 126), .int (nI (f + 1))]) rfl rfl ?_
      rw [show nI ((l).getD f 0) - 126 = nI (((l).getD f 0) - 126) from nI_subN (b := 126) (by omega)]
      refine WX.s1 rfl rfl ?_
      refine WX.div rfl (by decide) ?_
      rw [show nI (((l).getD f 0) - 126) / 2 = nI ((((l).getD f 0) - 126) / 2) from pk_div (by omega) (by decide) (by decide)]
      refine WX.s1 rfl rfl ?_
      exact t36 _ (by unfold dsE; rw [if_pos (by omega)]) (by omega)
  · skip
    have n_5 : (l).length ≤ f := Nat.le_of_not_lt (fun zz_ => c_5 ((nI_ltI (a := f) (b := (l).length) (by omega) (by omega)).mpr zz_))
    refine WX.s1 rfl rfl ?_
    exact WX.ret1 rfl (k0 (rdC_0 (by omega)) h I AR FR_h M_h FI_I FA_AR)
