/-! again, with the bounds of its two numbers -/
set_option maxRecDepth 20000 in
theorem x_againB {d n s : Nat} {h : Nat → aE} {ou ne sta dra : Nat} {id : Int64} {way least : Int32} {l : List Nat} {a b : Int32} (hn : 190 ≤ n) (hl : l.length ≤ 8000) (F_h_0 : h 0 = .inr (10, [.ref 1, .ref ou, .ref ne, .ref 7, .long id, .ref sta, .ref dra, .ref 67, .ref 81, .ref 189, .int way, .int least])) (P_h_in : RowIs h 1 8000 (some l) 0 0) {Ψ : Option Value → aH → Prop} (k0 : aBad l.length a b → Ψ (some (.int 0)) (n, s, h)) (k1 : ∀ h' p q, ¬ aBad l.length a b → a = nI p → b = nI q → p ≤ 8000 → q < 2 ^ 31 → Fr h h' (fun j => j = 1 ∨ j = 2) → RowIs h' 1 8000 (some (agL p l (p * q))) 0 0 → Ψ (some (.int 1)) (n, s, h')) : WO (mM (d + 2)) 125 [.ref 0, .int a, .int b] (n, s, h) Ψ := by
  refine WO.of (Nat.le_of_ble_eq_true rfl) ?_
  have FR_h : Fr h h (fun j => j = 1 ∨ j = 2) := Fr.rf
  obtain ⟨g, rA, -⟩ := P_h_in.at_
  have F_h_1 := rA.1
  show WX (lk tX11_again) (mM (d + 1)) Ψ 0 [(0, .ref 0), (1, .int a), (2, .int b)] [] (n, s, h)
  refine WX.s1 rfl rfl ?_
  refine WX.s1 rfl rfl ?_
  refine WX.icmp rfl (fun c_2 => ?_) (fun c_2 => ?_)
  · skip
    refine WX.s1 rfl rfl ?_
    exact WX.ret3 rfl (Or.inl rfl) (k0 (by first | exact Or.inl c_2 | exact Or.inr (Or.inl c_13) | exact Or.inr (Or.inr (Or.inl c_17)) | exact Or.inr (Or.inr (Or.inr (Int64.not_le.mp (fun z => c_38 (lcmp_le.mpr z)))))))
  · skip
    refine WX.s1 rfl rfl ?_
    refine WX.s1 rfl rfl ?_
    refine WX.get1 (fs := [.ref 1, .ref ou, .ref ne, .ref 7, .long id, .ref sta, .ref dra, .ref 67, .ref 81, .ref 189, .int way, .int least]) rfl (ltN hn (by decide)) (F_h_0) rfl ?_
    refine WX.get1 (fs := [.ref 2, .int (nI l.length), .int 0, .long 0, .int 0]) rfl (ltN hn (by decide)) (F_h_1) rfl ?_
    refine WX.icmp rfl (fun c_13 => ?_) (fun c_13 => ?_)
    · skip
      refine WX.s1 rfl rfl ?_
      exact WX.ret3 rfl (Or.inl rfl) (k0 (by first | exact Or.inl c_2 | exact Or.inr (Or.inl c_13) | exact Or.inr (Or.inr (Or.inl c_17)) | exact Or.inr (Or.inr (Or.inr (Int64.not_le.mp (fun z => c_38 (lcmp_le.mpr z)))))))
    · skip
      refine WX.s1 rfl rfl ?_
      refine WX.if_ rfl (fun c_17 => ?_) (fun c_17 => ?_)
      · skip
        refine WX.s1 rfl rfl ?_
        exact WX.ret3 rfl (Or.inl rfl) (k0 (by first | exact Or.inl c_2 | exact Or.inr (Or.inl c_13) | exact Or.inr (Or.inr (Or.inl c_17)) | exact Or.inr (Or.inr (Or.inr (Int64.not_le.mp (fun z => c_38 (lcmp_le.mpr z)))))))
      · skip
        refine WX.s1 rfl rfl ?_
        refine WX.get1 (fs := [.ref 1, .ref ou, .ref ne, .ref 7, .long id, .ref sta, .ref dra, .ref 67, .ref 81, .ref 189, .int way, .int least]) rfl (ltN hn (by decide)) (F_h_0) rfl ?_
        refine WX.get1 (fs := [.ref 2, .int (nI l.length), .int 0, .long 0, .int 0]) rfl (ltN hn (by decide)) (F_h_1) rfl ?_
        refine WX.s1 (S' := [.long ((nI l.length).toInt64)]) rfl rfl ?_
        refine WX.s1 rfl rfl ?_
        refine WX.s1 (S' := [.long (a.toInt64), .long ((nI l.length).toInt64)]) rfl rfl ?_
        refine WX.s1 rfl rfl ?_
        refine WX.s1 (S' := [.long (b.toInt64), .long (a.toInt64), .long ((nI l.length).toInt64)]) rfl rfl ?_
        refine WX.s1 (S' := [.long ((a.toInt64) * (b.toInt64)), .long ((nI l.length).toInt64)]) rfl rfl ?_
        refine WX.s1 (S' := [.long (((nI l.length).toInt64) + ((a.toInt64) * (b.toInt64)))]) rfl rfl ?_
        refine WX.s1 rfl rfl ?_
        refine WX.s1 (S' := [.int (lg_cmp (((nI l.length).toInt64) + ((a.toInt64) * (b.toInt64))) 8000)]) rfl rfl ?_
        refine WX.if_ rfl (fun c_38 => ?_) (fun c_38 => ?_)
        · skip
          have hgood : ¬ aBad l.length a b := by
            rintro (q | q | q | q)
            · exact c_2 q
            · exact c_13 q
            · exact c_17 q
            · exact (Int64.not_lt.mpr (lcmp_le.mp c_38)) q
          obtain ⟨p, q, rfl, rfl, hp1, hpu, hq, hle⟩ := ag_nat hl hgood
          clear c_2 c_13 c_17 c_38
          refine WX.s1 rfl rfl ?_
          refine WX.s1 rfl rfl ?_
          refine WX.s1 (S' := [.int ((nI p) * (nI q))]) rfl rfl ?_
          refine WX.s1 (L' := [(0, .ref 0), (1, .int (nI p)), (2, .int (nI q)), (3, .int ((nI p) * (nI q)))]) rfl rfl ?_
          refine WX.s1 rfl rfl ?_
          refine WX.s1 (L' := [(0, .ref 0), (1, .int (nI p)), (2, .int (nI q)), (3, .int ((nI p) * (nI q))), (4, .int 0)]) rfl rfl ?_
          rw [show nI p * nI q = nI (p * q) from (Int32.ofNat_mul p q).symm]
          have lp : ∀ (t i : Nat) (hL : Nat → aE), i + t = p * q → Fr h hL (fun j => j = 1 ∨ j = 2) → RowIs hL 1 8000 (some (agL p l i)) 0 0 → WX (lk tX11_again) (mM (d + 1)) Ψ 50 [(0, .ref 0), (1, .int (nI p)), (2, .int (nI q)), (3, .int (nI (p * q))), (4, .int (nI i))] [] (n, s, hL) := by
            have F0 := F_h_0
            clear F_h_0 F_h_1 P_h_in FR_h rA
            intro t
            induction t with
            | zero =>
              intro i hL ht FR_hL P_hL_in
              have F_hL_0 : hL 0 = .inr (10, [.ref 1, .ref ou, .ref ne, .ref 7, .long id, .ref sta, .ref dra, .ref 67, .ref 81, .ref 189, .int way, .int least]) := (FR_hL 0 (by decide)).trans F0
              have elen := agL_len p l i
              obtain ⟨gi, ri, hri, hgi⟩ := P_hL_in.at_
              have F_hL_1 := ri.1
              refine WX.s1 rfl rfl ?_
              refine WX.s1 rfl rfl ?_
              refine WX.icmp rfl (fun c_53 => ?_) (fun c_53 => absurd (nI_le (by omega) (by omega)) c_53)
              refine WX.s1 rfl rfl ?_
              obtain rfl : i = p * q := by omega
              exact WX.ret3 rfl (Or.inr rfl) (k1 hL p q hgood rfl rfl (by omega) hq FR_hL P_hL_in)
            | succ t ih =>
              intro i hL ht FR_hL P_hL_in
              have F_hL_0 : hL 0 = .inr (10, [.ref 1, .ref ou, .ref ne, .ref 7, .long id, .ref sta, .ref dra, .ref 67, .ref 81, .ref 189, .int way, .int least]) := (FR_hL 0 (by decide)).trans F0
              have elen := agL_len p l i
              obtain ⟨gi, ri, hri, hgi⟩ := P_hL_in.at_
              have F_hL_1 := ri.1
              refine WX.s1 rfl rfl ?_
              refine WX.s1 rfl rfl ?_
              refine WX.icmp rfl (fun c_53 => absurd c_53 (nI_ge (by omega) (by omega))) (fun c_53 => ?_)
              refine WX.s1 rfl rfl ?_
              refine WX.get1 (fs := [.ref 1, .ref ou, .ref ne, .ref 7, .long id, .ref sta, .ref dra, .ref 67, .ref 81, .ref 189, .int way, .int least]) rfl (ltN hn (by decide)) (F_hL_0) rfl ?_
              refine WX.s1 rfl rfl ?_
              refine WX.get1 (fs := [.ref 1, .ref ou, .ref ne, .ref 7, .long id, .ref sta, .ref dra, .ref 67, .ref 81, .ref 189, .int way, .int least]) rfl (ltN hn (by decide)) (F_hL_0) rfl ?_
              refine WX.s1 rfl rfl ?_
              refine WX.get1 (fs := [.ref 1, .ref ou, .ref ne, .ref 7, .long id, .ref sta, .ref dra, .ref 67, .ref 81, .ref 189, .int way, .int least]) rfl (ltN hn (by decide)) (F_hL_0) rfl ?_
              refine WX.get1 (fs := [.ref 2, .int (nI (agL p l i).length), .int 0, .long 0, .int 0]) rfl (ltN hn (by decide)) (F_hL_1) rfl ?_
              refine WX.s1 rfl rfl ?_
              refine WX.s1 (S' := [.int ((nI (agL p l i).length) - (nI p)), .ref 1, .ref 1]) rfl rfl ?_
              have esub : nI (agL p l i).length - nI p = nI ((agL p l i).length - p) := by
                obtain ⟨z, hz⟩ : ∃ z, (agL p l i).length = z + p := ⟨(agL p l i).length - p, by omega⟩
                rw [hz, ← nI_add, Nat.add_sub_cancel]
                exact Int32.add_sub_cancel _ _
              rw [esub]
              refine WX.callC (vs := [.ref 1, .int (nI ((agL p l i).length - p))]) rfl rfl rfl (Nat.le_of_ble_eq_true rfl) (rcv_ok (ltN hn (by decide)) F_hL_1) ?_
              refine w_at (ltN hn (by decide)) ri (by omega) (by decide) (fun j ej hj => ?_) (fun z => ?_)
              · skip
                obtain rfl : (agL p l i).length - p = j := (nI_eq (by omega) (by omega)).mp ej
                rw [(hgi _ hj).2]
                show WX _ _ _ 76 [(0, .ref 0), (1, .int (nI p)), (2, .int (nI q)), (3, .int (nI (p * q))), (4, .int (nI i))] [.int (sb_b ((agL p l i).getD ((agL p l i).length - p) 0) &&& 255), .ref 1] (n, s, hL)
                refine WX.callC (vs := [.ref 1, .int (sb_b ((agL p l i).getD ((agL p l i).length - p) 0) &&& 255)]) rfl rfl rfl (Nat.le_of_ble_eq_true rfl) (P_hL_in.rcv (ltN hn (by decide))) ?_
                refine w_putB (ltN hn (by decide)) P_hL_in (by decide) (fun h76 fr P_h76_in => ?_)
                have F_h76_0 : h76 0 = .inr (10, [.ref 1, .ref ou, .ref ne, .ref 7, .long id, .ref sta, .ref dra, .ref 67, .ref 81, .ref 189, .int way, .int least]) := (fr _ (by first | decide | omega)).trans F_hL_0
                have FR_h76 : Fr h h76 (fun j => j = 1 ∨ j = 2) := FR_hL.ztr fr
                show WX _ _ _ 79 [(0, .ref 0), (1, .int (nI p)), (2, .int (nI q)), (3, .int (nI (p * q))), (4, .int (nI i))] [] (n, s, h76)
                have P2 := P_h76_in
                rw [byt_and (hgi _ hj).1, bput_ok (by omega)] at P2
                refine WX.s1 (L' := [(0, .ref 0), (1, .int (nI p)), (2, .int (nI q)), (3, .int (nI (p * q))), (4, .int ((nI i) + 1))]) rfl rfl ?_
                refine WX.s1 rfl rfl ?_
                rw [nI_1 i]
                refine ih (i + 1) h76 (by omega) FR_h76 ?_
                exact P2
              · exfalso
                rcases z with z | z
                · exact nI_pos (by omega) z
                · exact absurd ((nI_leI (by omega) (by omega)).mp z) (by omega)
          exact lp (p * q) 0 h (by omega) FR_h P_h_in
        · skip
          refine WX.s1 rfl rfl ?_
          exact WX.ret3 rfl (Or.inl rfl) (k0 (by first | exact Or.inl c_2 | exact Or.inr (Or.inl c_13) | exact Or.inr (Or.inr (Or.inl c_17)) | exact Or.inr (Or.inr (Or.inr (Int64.not_le.mp (fun z => c_38 (lcmp_le.mpr z)))))))
set_option maxRecDepth 20000 in
theorem m_againB {d n s : Nat} {h : Nat → aE} {m : Nat} {I : Nat → Int32} {AR : Nat → Nat → Int32} {LN : Nat → Int64} {l : List Nat} {a b : Int32} (hm : m + 43 < n) (M_h : MAt h m I AR LN) (hF : InIs I AR l) (hl : l.length ≤ 8000)  {Ψ : Option Value → aH → Prop} (k0 : aBad l.length a b → Ψ (some (.int 0)) (n, s, h)) (k1 : ∀ h' I' A' p q, ¬ aBad l.length a b → a = nI p → b = nI q → p ≤ 8000 → q < 2 ^ 31 → Fr h h' (inM m) → MAt h' m I' A' LN → Fi I I' (fun f => f = 1) → Fa AR A' 1 → InIs I' A' (agL p l (p * q)) → Ψ (some (.int 1)) (n, s, h')) : WO (mM (d + 1)) 143 [.ref m, .int a, .int b] (n, s, h) Ψ := by
  refine WO.of (Nat.le_of_ble_eq_true rfl) ?_
  have FR_h : Fr h h (inM m) := Fr.rf
  have FI_I : Fi I I (fun f => f = 1) := Fi.rf
  have K_I_1 : I 1 = nI l.length := hF.1
  show WX (lk tX12_again) (mM d) Ψ 0 [(0, .ref m), (1, .int a), (2, .int b)] [] (n, s, h)
  refine WX.s1 rfl rfl ?_
  refine WX.s1 rfl rfl ?_
  refine WX.icmp rfl (fun c_2 => ?_) (fun c_2 => ?_)
  · skip
    refine WX.s1 rfl rfl ?_
    exact WX.ret3 rfl (Or.inl rfl) (k0 (by first | exact Or.inl c_2 | exact Or.inr (Or.inl c_10) | exact Or.inr (Or.inr (Or.inl c_14)) | exact Classical.byContradiction (fun z => c_32 (lcmp_le.mpr ((ag_room hl c_2 c_10 c_14).mpr z)))))
  · skip
    refine WX.s1 rfl rfl ?_
    refine WX.s1 rfl rfl ?_
    refine WX.mgetK (x := (nI l.length)) rfl hm M_h rfl K_I_1 ?_
    refine WX.icmp rfl (fun c_10 => ?_) (fun c_10 => ?_)
    · skip
      refine WX.s1 rfl rfl ?_
      exact WX.ret3 rfl (Or.inl rfl) (k0 (by first | exact Or.inl c_2 | exact Or.inr (Or.inl c_10) | exact Or.inr (Or.inr (Or.inl c_14)) | exact Classical.byContradiction (fun z => c_32 (lcmp_le.mpr ((ag_room hl c_2 c_10 c_14).mpr z)))))
    · skip
      refine WX.s1 rfl rfl ?_
      refine WX.if_ rfl (fun c_14 => ?_) (fun c_14 => ?_)
      · skip
        refine WX.s1 rfl rfl ?_
        exact WX.ret3 rfl (Or.inl rfl) (k0 (by first | exact Or.inl c_2 | exact Or.inr (Or.inl c_10) | exact Or.inr (Or.inr (Or.inl c_14)) | exact Classical.byContradiction (fun z => c_32 (lcmp_le.mpr ((ag_room hl c_2 c_10 c_14).mpr z)))))
      · skip
        refine WX.s1 rfl rfl ?_
        refine WX.s1 (S' := [.long (a.toInt64)]) rfl rfl ?_
        refine WX.s1 rfl rfl ?_
        refine WX.s1 (S' := [.long (b.toInt64), .long (a.toInt64)]) rfl rfl ?_
        refine WX.s1 (S' := [.long ((a.toInt64) * (b.toInt64))]) rfl rfl ?_
        refine WX.s1 rfl rfl ?_
        refine WX.s1 rfl rfl ?_
        refine WX.mgetK (x := (nI l.length)) rfl hm M_h rfl K_I_1 ?_
        refine WX.s1 (S' := [.int (8000 - (nI l.length)), .long ((a.toInt64) * (b.toInt64))]) rfl rfl ?_
        refine WX.s1 (S' := [.long ((8000 - (nI l.length)).toInt64), .long ((a.toInt64) * (b.toInt64))]) rfl rfl ?_
        refine WX.s1 (S' := [.int (lg_cmp ((a.toInt64) * (b.toInt64)) ((8000 - (nI l.length)).toInt64))]) rfl rfl ?_
        refine WX.if_ rfl (fun c_32 => ?_) (fun c_32 => ?_)
        · skip
          have hgood : ¬ aBad l.length a b := (ag_room hl c_2 c_10 c_14).mp (lcmp_le.mp c_32)
          obtain ⟨p, q, rfl, rfl, hp1, hpu, hq, hle⟩ := ag_nat hl hgood
          clear c_2 c_10 c_14 c_32
          refine WX.s1 rfl rfl ?_
          refine WX.s1 (L' := [(0, .ref m), (1, .int (nI p)), (2, .int (nI q)), (3, .int 0)]) rfl rfl ?_
          have lp : ∀ (t i : Nat) (hL : Nat → aE) (IL : Nat → Int32) (AL : Nat → Nat → Int32), i + t = p * q → Fr h hL (inM m) → MAt hL m IL AL LN → Fi I IL (fun f => f = 1) → Fa AR AL 1 → InIs IL AL (agL p l i) → WX (lk tX12_again) (mM d) Ψ 39 [(0, .ref m), (1, .int (nI p)), (2, .int (nI q)), (3, .int (nI i))] [] (n, s, hL) := by
            clear M_h FR_h FI_I K_I_1
            intro t
            induction t with
            | zero =>
              intro i hL IL AL ht FR_hL M_hL FI_IL FA_AL hInv
              have elen := agL_len p l i
              have K_IL_1 : IL 1 = nI (agL p l i).length := hInv.1
              refine WX.s1 rfl rfl ?_
              refine WX.s1 rfl rfl ?_
              refine WX.s1 rfl rfl ?_
              refine WX.s1 (S' := [.int ((nI p) * (nI q)), .int (nI i)]) rfl rfl ?_
              rw [show nI p * nI q = nI (p * q) from (Int32.ofNat_mul p q).symm]
              refine WX.icmp rfl (fun c_43 => ?_) (fun c_43 => absurd (nI_le (by omega) (by omega)) c_43)
              refine WX.s1 rfl rfl ?_
              obtain rfl : i = p * q := by omega
              exact WX.ret3 rfl (Or.inr rfl) (k1 hL IL AL p q hgood rfl rfl (by omega) hq FR_hL M_hL FI_IL FA_AL hInv)
            | succ t ih =>
              intro i hL IL AL ht FR_hL M_hL FI_IL FA_AL hInv
              have elen := agL_len p l i
              have K_IL_1 : IL 1 = nI (agL p l i).length := hInv.1
              refine WX.s1 rfl rfl ?_
              refine WX.s1 rfl rfl ?_
              refine WX.s1 rfl rfl ?_
              refine WX.s1 (S' := [.int ((nI p) * (nI q)), .int (nI i)]) rfl rfl ?_
              rw [show nI p * nI q = nI (p * q) from (Int32.ofNat_mul p q).symm]
              refine WX.icmp rfl (fun c_43 => absurd c_43 (nI_ge (by omega) (by omega))) (fun c_43 => ?_)
              refine WX.s1 rfl rfl ?_
              refine WX.mget rfl hm M_hL rfl ?_
              refine WX.s1 rfl rfl ?_
              refine WX.mgetK (x := (nI (agL p l i).length)) rfl hm M_hL rfl K_IL_1 ?_
              refine WX.s1 rfl rfl ?_
              refine WX.mget rfl hm M_hL rfl ?_
              refine WX.s1 rfl rfl ?_
              refine WX.mgetK (x := (nI (agL p l i).length)) rfl hm M_hL rfl K_IL_1 ?_
              refine WX.s1 rfl rfl ?_
              refine WX.s1 (S' := [.int ((nI (agL p l i).length) - (nI p)), .ref (m + 1), .int (nI (agL p l i).length), .ref (m + 1)]) rfl rfl ?_
              have esub : nI (agL p l i).length - nI p = nI ((agL p l i).length - p) := by
                obtain ⟨z, hz⟩ : ∃ z, (agL p l i).length = z + p := ⟨(agL p l i).length - p, by omega⟩
                rw [hz, ← nI_add, Nat.add_sub_cancel]
                exact Int32.add_sub_cancel _ _
              rw [esub]
              refine WX.mald (c := 1) rfl hm M_hL (by decide) (by decide) (by decide) (by decide) (vp_in_nI (N := 8000) (by omega) (by decide)) ?_
              refine WX.mast (c := 1) rfl hm M_hL (by decide) (by decide) (by decide) (by decide) (vp_in_nI (N := 8000) (by omega) (by decide)) (fun h65n1 A65n1 e_A65n1 M_h65n1 frh65n1 => ?_)
              try dsimp only at e_A65n1
              have FR_h65n1 := FR_hL.ztr frh65n1
              clear M_hL FR_hL frh65n1
              refine WX.s1 rfl rfl ?_
              refine WX.s1 rfl rfl ?_
              refine WX.mgetK (x := (nI (agL p l i).length)) rfl hm M_h65n1 rfl K_IL_1 ?_
              refine WX.s1 rfl rfl ?_
              refine WX.s1 (S' := [.int ((nI (agL p l i).length) + 1), .ref m]) rfl rfl ?_
              refine WX.mput rfl hm M_h65n1 (rfl) (by decide) (fun _ => rfl) (fun h73n2 I73n2 e_I73n2 M_h73n2 frh73n2 => ?_)
              have FR_h73n2 := FR_h65n1.ztr frh73n2
              have FI_I73n2 : Fi I I73n2 (fun f => f = 1) := FI_IL.zup e_I73n2 (by first | exact rfl | decide | omega)
              have K_I73n2_1 : I73n2 1 = (nI ((agL p l i).length + 1)) := by rw [e_I73n2]; exact pk_us.trans (nI_1 _)
              clear M_h65n1 FR_h65n1 FI_IL e_I73n2 frh73n2 K_IL_1
              refine WX.s1 (L' := [(0, .ref m), (1, .int (nI p)), (2, .int (nI q)), (3, .int ((nI i) + 1))]) rfl rfl ?_
              refine WX.s1 rfl rfl ?_
              rw [nI_1 i]
              rw [nI_clamp (by omega), nI_clamp (by omega), hInv.2 _ (by omega)] at e_A65n1
              refine ih (i + 1) h73n2 I73n2 A65n1 (by omega) FR_h73n2 M_h73n2 FI_I73n2 (FA_AL.ast e_A65n1) ?_
              rw [e_A65n1]
              exact hInv.st K_I73n2_1
          exact lp (p * q) 0 h I AR (by omega) FR_h M_h FI_I Fa.rf hF
        · skip
          refine WX.s1 rfl rfl ?_
          exact WX.ret3 rfl (Or.inl rfl) (k0 (by first | exact Or.inl c_2 | exact Or.inr (Or.inl c_10) | exact Or.inr (Or.inr (Or.inl c_14)) | exact Classical.byContradiction (fun z => c_32 (lcmp_le.mpr ((ag_room hl c_2 c_10 c_14).mpr z)))))

