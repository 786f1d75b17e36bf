/-! the reference: lengthsByCounts -/
theorem hv_sum (c : Nat → Nat) : ∀ N, sumN (hvF c) N ≤ sumN c N := fun N => sumN_le (fun s _ => by show (c s + 1) / 2 ≤ c s; omega)
def LsOk (ls : List Nat) : Prop := (∀ s, s ∈ ls → s < 256) ∧ ls.length ≤ 8000
theorem cd_all_le {ls : List Nat} (s : Nat) : (cdF ls).1 s ≤ ls.length := by rw [cd_cnt]; exact List.count_le_length
theorem lb_1 {c : Nat → Nat} {f : Nat} (h : topF c ≤ 11) : lbF (f + 1) c = c := by
  rw [lbF]
  exact if_pos h
theorem lb_2 {c : Nat → Nat} {f : Nat} (h : ¬ topF c ≤ 11) : lbF (f + 1) c = lbF f (hvF c) := by
  rw [lbF]
  exact if_neg h
theorem top_1 {c : Nat → Nat} (h : ∀ s, c s ≤ 2 ^ 0) : topF c ≤ 11 := by
  refine mxK_le (fun s => ?_) 256
  have q5 : sumN c 256 ≤ sumN (fun _ => 1) 256 := sumN_le (fun s _ => h s)
  rw [sumN_c1] at q5
  exact dF_le q5 (by decide)
def cL (ls : List Nat) : Nat → Nat := lbF 32 (cdF ls).1
theorem cL_top {ls : List Nat} (h : LsOk ls) : topF (cL ls) ≤ 11 ∧ cL ls = lbF 14 (cdF ls).1 := by
  obtain ⟨a, b⟩ := lb_top 13 32 (cdF ls).1 (by decide) (fun s => Nat.le_trans (cd_all_le s) (Nat.le_trans h.2 (by decide)))
  exact ⟨a, b⟩
set_option maxRecDepth 20000 in
theorem m_lbc {d n s : Nat} {h : Nat → aE} {m : Nat} {I : Nat → Int32} {AR : Nat → Nat → Int32} {LN : Nat → Int64} {ls : List Nat} (hm : m + 43 < n) (M_h : MAt h m I AR LN) (hL : LitM I AR ls) (hls : LsOk ls) (K_I_33 : I 33 = (nI ls.length)) {Ψ : Option Value → aH → Prop} (kk : ∀ h' I' A', Fr h h' (inM m) → MAt h' m I' A' LN → Fi I I' (fun f => f = 52) → FaS AR A' (fun b => b = 34 ∨ b = 35 ∨ b = 36 ∨ b = 37) → (∀ s, s < 256 → A' 37 s = nI (dF (cL ls) s)) → Ψ (some (.int (nI (topF (cL ls))))) (n, s, h')) : WO (mM (d + 3)) 178 [.ref m] (n, s, h) Ψ := by
  refine WO.of (Nat.le_of_ble_eq_true rfl) ?_
  have FR_h : Fr h h (inM m) := Fr.rf
  have FI_I : Fi I I (fun f => f = 52) := Fi.rf
  have FA_AR : FaS AR AR (fun b => b = 34 ∨ b = 35 ∨ b = 36 ∨ b = 37) := FaS.rf
  have hlen := hls.2
  obtain ⟨hct, hce⟩ := cL_top hls
  show WX (lk tX12_lengthsByCounts) (mM (d + 2)) Ψ 0 [(0, .ref m)] [] (n, s, h)
  refine WX.s1 rfl rfl ?_
  refine WX.s1 (L' := [(0, .ref m), (1, .int 0)]) rfl rfl ?_
  have lp : ∀ (t i : Nat) (hL_ : Nat → aE) (AL : Nat → Nat → Int32), i + t = 256 → Fr h hL_ (inM m) → MAt hL_ m I AL LN → Fi I I (fun f => f = 52) → FaS AR AL (fun b => b = 34 ∨ b = 35 ∨ b = 36 ∨ b = 37) → (∀ s, s < i → AL 34 s = nI 0) → WX (lk tX12_lengthsByCounts) (mM (d + 2)) Ψ 2 [(0, .ref m), (1, .int (nI i))] [] (n, s, hL_) := by
    clear M_h FR_h FA_AR
    intro t
    induction t with
    | zero =>
      intro i hL_ AL hi FR_hL_ M_hL_ _ FA_AL h0
      obtain rfl : i = 256 := by omega
      refine WX.s1 rfl rfl ?_
      refine WX.s1 rfl rfl ?_
      refine WX.icmp rfl (fun c_6 => ?_) (fun c_6 => absurd ((nI_leI (a := 256) (b := 256) (by omega) (by omega)).mpr (by omega)) c_6)
      clear c_6
      refine WX.s1 rfl rfl ?_
      refine WX.s1 (L' := [(0, .ref m), (1, .int 0)]) rfl rfl ?_
      have lp2 : ∀ (t i : Nat) (hL_ : Nat → aE) (AL : Nat → Nat → Int32), i + t = ls.length → Fr h hL_ (inM m) → MAt hL_ m I AL LN → Fi I I (fun f => f = 52) → FaS AR AL (fun b => b = 34 ∨ b = 35 ∨ b = 36 ∨ b = 37) → (∀ s, s < 256 → AL 34 s = nI ((cdF (ls.take i)).1 s)) → WX (lk tX12_lengthsByCounts) (mM (d + 2)) Ψ 24 [(0, .ref m), (1, .int (nI i))] [] (n, s, hL_) := by
        clear M_hL_ FR_hL_ FA_AL h0
        intro t
        induction t with
        | zero =>
          intro i hL_ AL hi FR_hL_ M_hL_ _ FA_AL hc
          obtain rfl : i = ls.length := by omega
          rw [List.take_length] at hc
          refine WX.s1 rfl rfl ?_
          refine WX.s1 rfl rfl ?_
          refine WX.mgetK (x := (nI ls.length)) rfl hm M_hL_ rfl K_I_33 ?_
          refine WX.icmp rfl (fun c_29 => ?_) (fun c_29 => absurd ((nI_leI (a := ls.length) (b := ls.length) (by omega) (by omega)).mpr (by omega)) c_29)
          clear c_29
          have hsm : sumN (cdF ls).1 256 ≤ 8000 := by rw [cd_sum hls.1]; exact hlen
          refine WX.s1 rfl rfl ?_
          refine WX.callC (vs := [.ref m]) rfl rfl rfl (Nat.le_of_ble_eq_true rfl) (M_hL_.rcv hm) ?_
          refine m_tree (c := (cdF ls).1) hm M_hL_ hc hsm (fun hT1 IT1 AT1 frT1 M_hT1 fiT1 faT1 hdT1 => ?_)
          have FR_hT1 := FR_hL_.ztr frT1
          have FI_IT1 : Fi I IT1 (fun f => f = 52) := FI_I.ztr fiT1
          have FA_AT1 : FaS AR AT1 (fun b => b = 34 ∨ b = 35 ∨ b = 36 ∨ b = 37) := FA_AL.ztr (faT1.mono (fun x hx => by omega))
          show WX _ _ _ 57 [(0, .ref m), (1, .int (nI ls.length))] [.int (nI (topF ((cdF ls).1)))] (n, s, hT1)
          refine WX.s1 (L' := [(0, .ref m), (1, .int (nI (topF ((cdF ls).1))))]) rfl rfl ?_
          have lp3 : ∀ (mm : Nat) (c : Nat → Nat) (hL_ : Nat → aE) (IL : Nat → Int32) (AL : Nat → Nat → Int32), (∀ s, c s ≤ 2 ^ mm) → lbF (mm + 1) c = cL ls → sumN c 256 ≤ 8000 → Fr h hL_ (inM m) → MAt hL_ m IL AL LN → Fi I IL (fun f => f = 52) → FaS AR AL (fun b => b = 34 ∨ b = 35 ∨ b = 36 ∨ b = 37) → (∀ s, s < 256 → AL 34 s = nI (c s)) → (∀ s, s < 256 → AL 37 s = nI (dF c s)) → WX (lk tX12_lengthsByCounts) (mM (d + 2)) Ψ 58 [(0, .ref m), (1, .int (nI (topF c)))] [] (n, s, hL_) := by
            clear M_hT1 FR_hT1 FI_IT1 FA_AT1 hdT1 faT1 fiT1 frT1 hc M_hL_ FR_hL_ FA_AL
            intro mm
            induction mm with
            | zero =>
              intro c hL_ IL AL hcm hlb hsm2 FR_hL_ M_hL_ FI_IL FA_AL h34 h37
              have htb : topF c ≤ 18 := mxK_le (fun s => dF_le hsm2 (by decide)) 256
              by_cases ht : topF c ≤ 11
              · have hcc : c = cL ls := (lb_1 ht).symm.trans hlb
                rw [hcc] at h37 h34 ⊢
                refine WX.s1 rfl rfl ?_
                refine WX.s1 rfl rfl ?_
                refine WX.icmp rfl (fun c_61 => ?_) (fun c_61 => absurd ((nI_leI (a := topF (cL ls)) (b := 11) (by omega) (by omega)).mpr (by omega)) c_61)
                clear c_61
                refine WX.s1 rfl rfl ?_
                exact WX.ret1 rfl (kk hL_ IL AL FR_hL_ M_hL_ FI_IL FA_AL h37)
              · exact absurd (top_1 hcm) ht
            | succ mm ih3 =>
              intro c hL_ IL AL hcm hlb hsm2 FR_hL_ M_hL_ FI_IL FA_AL h34 h37
              have htb : topF c ≤ 18 := mxK_le (fun s => dF_le hsm2 (by decide)) 256
              by_cases ht : topF c ≤ 11
              · have hcc : c = cL ls := (lb_1 ht).symm.trans hlb
                rw [hcc] at h37 h34 ⊢
                refine WX.s1 rfl rfl ?_
                refine WX.s1 rfl rfl ?_
                refine WX.icmp rfl (fun c_61 => ?_) (fun c_61 => absurd ((nI_leI (a := topF (cL ls)) (b := 11) (by omega) (by omega)).mpr (by omega)) c_61)
                clear c_61
                refine WX.s1 rfl rfl ?_
                exact WX.ret1 rfl (kk hL_ IL AL FR_hL_ M_hL_ FI_IL FA_AL h37)
              · have hlb2 : lbF (mm + 1) (hvF c) = cL ls := (lb_2 ht).symm.trans hlb
                have hcb : ∀ s, s < 256 → c s ≤ 8000 := fun s hs => Nat.le_trans (sumN_get c hs) hsm2
                have hsm3 : sumN (hvF c) 256 ≤ 8000 := Nat.le_trans (hv_sum c 256) hsm2
                refine WX.s1 rfl rfl ?_
                refine WX.s1 rfl rfl ?_
                refine WX.icmp rfl (fun c_61 => absurd c_61 (fun zz_ => absurd ((nI_leI (a := topF c) (b := 11) (by omega) (by omega)).mp zz_) (Nat.not_le.mpr (by omega)))) (fun c_61 => ?_)
                clear c_61
                refine WX.s1 rfl rfl ?_
                refine WX.s1 (L' := [(0, .ref m), (1, .int (nI (topF c))), (2, .int 0)]) rfl rfl ?_
                have lp4 : ∀ (t i : Nat) (hL_ : Nat → aE) (AL : Nat → Nat → Int32), i + t = 256 → Fr h hL_ (inM m) → MAt hL_ m IL AL LN → Fi I IL (fun f => f = 52) → FaS AR AL (fun b => b = 34 ∨ b = 35 ∨ b = 36 ∨ b = 37) → (∀ s, s < 256 → AL 34 s = nI (if s < i then hvF c s else c s)) → WX (lk tX12_lengthsByCounts) (mM (d + 2)) Ψ 66 [(0, .ref m), (1, .int (nI (topF c))), (2, .int (nI i))] [] (n, s, hL_) := by
                  clear M_hL_ FR_hL_ FA_AL h34 h37
                  intro t
                  induction t with
                  | zero =>
                    intro i hL_ AL hi FR_hL_ M_hL_ _ FA_AL h34
                    obtain rfl : i = 256 := by omega
                    refine WX.s1 rfl rfl ?_
                    refine WX.s1 rfl rfl ?_
                    refine WX.icmp rfl (fun c_70 => ?_) (fun c_70 => absurd ((nI_leI (a := 256) (b := 256) (by omega) (by omega)).mpr (by omega)) c_70)
                    clear c_70
                    refine WX.keep (y := 178) [0] (show ([0, 1, 2] : List Nat).Nodup by decide) rfl ?_
                    have h35 : ∀ s, s < 256 → AL 34 s = nI (hvF c s) := fun s hs => by rw [h34 s hs, if_pos hs]
                    refine WX.s1 rfl rfl ?_
                    refine WX.callC (vs := [.ref m]) rfl rfl rfl (Nat.le_of_ble_eq_true rfl) (M_hL_.rcv hm) ?_
                    refine m_tree (c := hvF c) hm M_hL_ h35 hsm3 (fun hT2 IT2 AT2 frT2 M_hT2 fiT2 faT2 hdT2 => ?_)
                    have FR_hT2 := FR_hL_.ztr frT2
                    have FI_IT2 : Fi I IT2 (fun f => f = 52) := FI_IL.ztr fiT2
                    have FA_AT2 : FaS AR AT2 (fun b => b = 34 ∨ b = 35 ∨ b = 36 ∨ b = 37) := FA_AL.ztr (faT2.mono (fun x hx => by omega))
                    show WX _ _ _ 99 [(0, .ref m)] [.int (nI (topF (hvF c)))] (n, s, hT2)
                    refine WX.s1 (L' := [(0, .ref m), (1, .int (nI (topF (hvF c))))]) rfl rfl ?_
                    refine WX.s1 rfl rfl ?_
                    exact ih3 (hvF c) hT2 IT2 AT2 (hv_le hcm) hlb2 hsm3 FR_hT2 M_hT2 FI_IT2 FA_AT2 (fun s hs => by rw [faT2 34 (by decide)]; exact h35 s hs) hdT2
                  | succ t ih4 =>
                    intro i hL_ AL hi FR_hL_ M_hL_ _ FA_AL h34
                    have hci := hcb i (by omega)
                    have h3i := h34 i (by omega)
                    rw [if_neg (Nat.lt_irrefl i)] at h3i
                    refine WX.s1 rfl rfl ?_
                    refine WX.s1 rfl rfl ?_
                    refine WX.icmp rfl (fun c_70 => absurd c_70 (fun zz_ => absurd ((nI_leI (a := 256) (b := i) (by omega) (by omega)).mp zz_) (Nat.not_le.mpr (by omega)))) (fun c_70 => ?_)
                    clear c_70
                    refine WX.s1 rfl rfl ?_
                    refine WX.mget rfl hm M_hL_ rfl ?_
                    refine WX.s1 rfl rfl ?_
                    refine WX.s1 rfl rfl ?_
                    refine WX.mget rfl hm M_hL_ rfl ?_
                    refine WX.s1 rfl rfl ?_
                    refine WX.mald (c := 34) rfl hm M_hL_ (by decide) (by decide) (by decide) (by decide) (vp_in_nI (N := 256) (by omega) (by decide)) ?_
                    rw [nI_clamp (by omega), h3i]
                    refine WX.s1 rfl rfl ?_
                    refine WX.s1 (S' := [.int ((nI (c i)) + 1), .int (nI i), .ref (m + 34)]) rfl rfl ?_
                    rw [show ((nI (c i)) + 1) = nI (c i + 1) from nI_add (c i) 1]
                    refine WX.s1 rfl rfl ?_
                    refine WX.div rfl (by decide) ?_
                    rw [show nI (c i + 1) / 2 = nI (hvF c i) from pk_div (by omega) (by decide) (by decide)]
                    refine WX.mast (c := 34) rfl hm M_hL_ (by decide) (by decide) (by decide) (by decide) (vp_in_nI (N := 256) (by omega) (by decide)) (fun h88n1 A88n1 e_A88n1 M_h88n1 frh88n1 => ?_)
                    try dsimp only at e_A88n1
                    have FR_h88n1 := FR_hL_.ztr frh88n1
                    clear M_hL_ FR_hL_ frh88n1
                    refine WX.s1 (L' := [(0, .ref m), (1, .int (nI (topF c))), (2, .int ((nI i) + 1))]) rfl rfl ?_
                    rw [show ((nI i) + 1) = nI (i + 1) from nI_add i 1]
                    refine WX.s1 rfl rfl ?_
                    rw [nI_clamp (by omega)] at e_A88n1
                    refine ih4 (i + 1) h88n1 A88n1 (by omega) FR_h88n1 M_h88n1 FI_IL (FA_AL.ast e_A88n1 (by omega)) (fun q hq => ?_)
                    rw [e_A88n1, upA_same]
                    by_cases z : q = i
                    · rw [z, pk_us, if_pos (by omega)]
                    · rw [pk_un z, h34 q hq]
                      by_cases y : q < i
                      · rw [if_pos y, if_pos (by omega)]
                      · rw [if_neg y, if_neg (by omega)]
                exact lp4 256 0 hL_ AL (by omega) FR_hL_ M_hL_ FI_IL FA_AL (fun s hs => by rw [if_neg (Nat.not_lt_zero s)]; exact h34 s hs)
          exact lp3 13 (cdF ls).1 hT1 IT1 AT1 (fun s => Nat.le_trans (cd_all_le s) (Nat.le_trans hlen (by decide))) hce.symm hsm FR_hT1 M_hT1 FI_IT1 FA_AT1 (fun s hs => by rw [faT1 34 (by decide)]; exact hc s hs) hdT1
        | succ t ih2 =>
          intro i hL_ AL hi FR_hL_ M_hL_ _ FA_AL hc
          have y1 := hL.2 i (by omega)
          have y2 := hls.1 _ (getD_mem (show i < ls.length by omega))
          have hcd := cd_take (show i < ls.length by omega)
          have hcb : (cdF (ls.take i)).1 (ls.getD i 0) ≤ 8000 := by refine Nat.le_trans (cd_all_le _) ?_; rw [List.length_take]; omega
          refine WX.s1 rfl rfl ?_
          refine WX.s1 rfl rfl ?_
          refine WX.mgetK (x := (nI ls.length)) rfl hm M_hL_ rfl K_I_33 ?_
          refine WX.icmp rfl (fun c_29 => absurd c_29 (fun zz_ => absurd ((nI_leI (a := ls.length) (b := i) (by omega) (by omega)).mp zz_) (Nat.not_le.mpr (by omega)))) (fun c_29 => ?_)
          clear c_29
          refine WX.s1 rfl rfl ?_
          refine WX.mget rfl hm M_hL_ rfl ?_
          refine WX.s1 rfl rfl ?_
          refine WX.mget rfl hm M_hL_ rfl ?_
          refine WX.s1 rfl rfl ?_
          refine WX.mald (c := 20) rfl hm M_hL_ (by decide) (by decide) (by decide) (by decide) (vp_in_nI (N := 8001) (by omega) (by decide)) ?_
          rw [nI_clamp (by omega), FA_AL 20 (by decide), y1]
          refine WX.s1 rfl rfl ?_
          refine WX.mald (c := 34) rfl hm M_hL_ (by decide) (by decide) (by decide) (by decide) (vp_in_nI (N := 256) (by omega) (by decide)) ?_
          rw [nI_clamp (by omega), hc _ y2]
          refine WX.s1 rfl rfl ?_
          refine WX.s1 (S' := [.int ((nI ((cdF (ls.take i)).1 (ls.getD i 0))) + 1), .int (nI (ls.getD i 0)), .ref (m + 34)]) rfl rfl ?_
          rw [show ((nI ((cdF (ls.take i)).1 (ls.getD i 0))) + 1) = nI ((cdF (ls.take i)).1 (ls.getD i 0) + 1) from nI_add ((cdF (ls.take i)).1 (ls.getD i 0)) 1]
          refine WX.mast (c := 34) rfl hm M_hL_ (by decide) (by decide) (by decide) (by decide) (vp_in_nI (N := 256) (by omega) (by decide)) (fun h46n2 A46n2 e_A46n2 M_h46n2 frh46n2 => ?_)
          try dsimp only at e_A46n2
          have FR_h46n2 := FR_hL_.ztr frh46n2
          clear M_hL_ FR_hL_ frh46n2
          refine WX.s1 (L' := [(0, .ref m), (1, .int ((nI i) + 1))]) rfl rfl ?_
          rw [show ((nI i) + 1) = nI (i + 1) from nI_add i 1]
          refine WX.s1 rfl rfl ?_
          rw [nI_clamp (by omega)] at e_A46n2
          refine ih2 (i + 1) h46n2 A46n2 (by omega) FR_h46n2 M_h46n2 FI_I (FA_AL.ast e_A46n2 (by omega)) (fun q hq => ?_)
          rw [e_A46n2, upA_same, hcd]
          show _ = nI (updN _ _ _ q)
          by_cases z : q = ls.getD i 0
          · rw [z, pk_us, updN_s]
          · rw [pk_un z, updN_n z]; exact hc q hq
      exact lp2 ls.length 0 hL_ AL (by omega) FR_hL_ M_hL_ FI_I FA_AL (fun s hs => h0 s hs)
    | succ t ih =>
      intro i hL_ AL hi FR_hL_ M_hL_ _ FA_AL h0
      refine WX.s1 rfl rfl ?_
      refine WX.s1 rfl rfl ?_
      refine WX.icmp rfl (fun c_6 => absurd c_6 (fun zz_ => absurd ((nI_leI (a := 256) (b := i) (by omega) (by omega)).mp zz_) (Nat.not_le.mpr (by omega)))) (fun c_6 => ?_)
      clear c_6
      refine WX.s1 rfl rfl ?_
      refine WX.mget rfl hm M_hL_ rfl ?_
      refine WX.s1 rfl rfl ?_
      refine WX.s1 rfl rfl ?_
      refine WX.mast (c := 34) rfl hm M_hL_ (by decide) (by decide) (by decide) (by decide) (vp_in_nI (N := 256) (by omega) (by decide)) (fun h15n3 A15n3 e_A15n3 M_h15n3 frh15n3 => ?_)
      try dsimp only at e_A15n3
      have FR_h15n3 := FR_hL_.ztr frh15n3
      clear M_hL_ FR_hL_ frh15n3
      refine WX.s1 (L' := [(0, .ref m), (1, .int ((nI i) + 1))]) rfl rfl ?_
      rw [show ((nI i) + 1) = nI (i + 1) from nI_add i 1]
      refine WX.s1 rfl rfl ?_
      rw [nI_clamp (by omega)] at e_A15n3
      refine ih (i + 1) h15n3 A15n3 (by omega) FR_h15n3 M_h15n3 FI_I (FA_AL.ast e_A15n3 (by omega)) (fun q hq => ?_)
      rw [e_A15n3, upA_same]
      by_cases z : q = i
      · rw [z, pk_us]; rfl
      · rw [pk_un z]; exact h0 q (by omega)
  exact lp 256 0 h AR (by omega) FR_h M_h FI_I FA_AR (fun q hq => absurd hq (Nat.not_lt_zero q))
