/-! the reference: literals said -/
noncomputable def litF (tC : Option Le) (ls : List Nat) : LC := if 2 ≤ ls.length ∧ ¬ (ls ≠ [] ∧ ∀ s, s ∈ ls → s = ls.getD 0 0) then lc2 (dsY (wtL (dF (cL ls)) (topF (cL ls)))) (dF (cL ls)) ls (lc3 tC ls (lc1 ls)) else lc3 tC ls (lc1 ls)
def LeO : Option Le → Prop
  | none => True
  | some t => LenOk t.1 t.2
theorem lc1_bd {ls : List Nat} (h : ls.length ≤ 8000) : (lc1 ls).2.1 ≤ 8003 ∧ (lc1 ls).1 < 2 ∧ ((lc1 ls).1 = 1 → 1 ≤ ls.length) := by
  have hhp : hpF ls.length ≤ 3 := by unfold hpF; split <;> (try split) <;> omega
  unfold lc1
  split
  · rename_i q
    exact ⟨by show hpF ls.length + 1 ≤ _; omega, show 1 < 2 by decide, fun _ => List.length_pos_iff.mpr q.1.1⟩
  · exact ⟨by show hpF ls.length + ls.length ≤ _; omega, show 0 < 2 by decide, fun z => absurd (show (0 : Nat) = 1 from z) (by decide)⟩
theorem lcS_cs (b : LC) (k st n : Nat) : (((n < 1024 → st < 1024) ∧ chd n + st < b.2.1) ∧ lcS b k st n = (k, chd n + st, st)) ∨ ((¬ ((n < 1024 → st < 1024) ∧ chd n + st < b.2.1)) ∧ lcS b k st n = b) := by
  unfold lcS
  by_cases h : (n < 1024 → st < 1024) ∧ chd n + st < b.2.1
  · rw [if_pos h]; exact Or.inl ⟨h, rfl⟩
  · rw [if_neg h]; exact Or.inr ⟨h, rfl⟩
theorem lc3_cs {tC : Option Le} {ls : List Nat} (b : LC) : (lc3 tC ls b = b) ∨ (∃ t, tC = some t ∧ (∀ s, s ∈ ls → t.1 s ≠ 0) ∧ (ls.length < 1024 → tob t.1 ls < 1024) ∧ chd ls.length + tob t.1 ls < b.2.1 ∧ lc3 tC ls b = (3, chd ls.length + tob t.1 ls, tob t.1 ls)) := by
  cases tC with
  | none => exact Or.inl rfl
  | some t =>
    by_cases h : ∀ s, s ∈ ls → t.1 s ≠ 0
    · have e : lc3 (some t) ls b = lcS b 3 (tob t.1 ls) ls.length := if_pos h
      rcases lcS_cs b 3 (tob t.1 ls) ls.length with ⟨q, z⟩ | ⟨q, z⟩
      · exact Or.inr ⟨t, rfl, h, q.1, q.2, e.trans z⟩
      · exact Or.inl (e.trans z)
    · exact Or.inl (if_neg h)
theorem hb_ch {n : Nat} (h : n < 1024) : chd n = 3 := if_pos h
theorem hb_ch2 {n : Nat} (h : ¬ n < 1024) : chd n = 4 := if_neg h
theorem RefL.mk {I : Nat → Int32} {A : Nat → Nat → Int32} {L : Nat → Nat} {t : Nat} (h1 : I 15 = nI t) (h2 : ∀ s, s < 256 → A 8 s = nI (L s)) : RefL I A (some (L, t)) := ⟨h1, h2⟩
theorem RefL.fa {I J : Nat → Int32} {A B : Nat → Nat → Int32} {t : Option Le} (h : RefL I A t) (h1 : J 15 = I 15) (h2 : B 8 = A 8) : RefL J B t := by
  cases t with
  | none => exact h1.trans h
  | some t => exact ⟨h1.trans h.1, fun s hs => by rw [h2]; exact h.2 s hs⟩
theorem dsY_len {L : Nat → Nat} {t : Nat} {y : List Nat} (h : LenOk L t) (e : dsY (wtL L t) = some y) : 1 ≤ y.length ∧ y.length ≤ 240 := by
  have hk := lsF_le L 255
  have hwl := wtL_len L t
  unfold dsY at e
  split at e
  · rename_i q
    have e2 := Option.some.inj e
    rw [← e2, dirY_len]
    omega
  · split at e
    · exact absurd e (by simp)
    · rename_i q1 q2
      have e2 := Option.some.inj e
      rw [← e2]
      have hb : bsN (wtL L t) ≠ 0 := q2
      unfold bsN at hb
      split at hb
      · rename_i q3
        show 1 ≤ (bsY (wtL L t)).length + 1 ∧ (bsY (wtL L t)).length + 1 ≤ 240
        omega
      · exact absurd rfl hb
set_option maxRecDepth 20000 in
theorem m_sayLits {d n s : Nat} {h : Nat → aE} {m : Nat} {I : Nat → Int32} {AR : Nat → Nat → Int32} {LN : Nat → Int64} {ls lf : List Nat} {tC : Option Le} {c0 w0 : Nat} (hm : m + 43 < n) (M_h : MAt h m I AR LN) (hL : LitM I AR ls) (hls : LsOk ls) (hRL : RefL I AR tC) (hLO : LeO tC) (hM : MadeIs I AR c0 w0) (hF : FrameIs I AR lf) (hl : lf.length < 2 ^ 27) (K_I_33 : I 33 = (nI ls.length)) {Ψ : Option Value → aH → Prop} (kkP : (litF tC ls).1 < 2 → ∀ h' I' A' c w, Fr h h' (inM m) → MAt h' m I' A' LN → Fi I I' (fun f => f = 15 ∨ f = 38 ∨ f = 40 ∨ f = 52 ∨ f = 56) → FaS AR A' (fun b => b = 8 ∨ (24 ≤ b ∧ b ≤ 39)) → MadeIs I' A' c w → RefL I' A' tC → FrameIs I' A' (lf ++ plY (litF tC ls).1 ls) → Ψ (some (.int (nI (litF tC ls).1))) (n, s, h')) (kk3 : ∀ t, tC = some t → (litF tC ls).1 = 3 → ∀ h' I' A' c w, Fr h h' (inM m) → MAt h' m I' A' LN → Fi I I' (fun f => f = 15 ∨ f = 38 ∨ f = 40 ∨ f = 52 ∨ f = 56) → FaS AR A' (fun b => b = 8 ∨ (24 ≤ b ∧ b ≤ 39)) → MadeIs I' A' c w → RefL I' A' tC → FrameIs I' A' (lf ++ (hdY 3 (litF tC ls).2.2 ls ++ stmY t.1 t.2 ls)) → Ψ (some (.int (nI 3))) (n, s, h')) (kk2 : ∀ y, dsY (wtL (dF (cL ls)) (topF (cL ls))) = some y → (litF tC ls).1 = 2 → ∀ h' I' A' c w, Fr h h' (inM m) → MAt h' m I' A' LN → Fi I I' (fun f => f = 15 ∨ f = 38 ∨ f = 40 ∨ f = 52 ∨ f = 56) → FaS AR A' (fun b => b = 8 ∨ (24 ≤ b ∧ b ≤ 39)) → MadeIs I' A' c w → RefL I' A' (some ((dF (cL ls)), (topF (cL ls)))) → FrameIs I' A' (lf ++ (hdY 2 (litF tC ls).2.2 ls ++ (y ++ stmY (dF (cL ls)) (topF (cL ls)) ls))) → Ψ (some (.int (nI 2))) (n, s, h')) : WO (mM (d + 5)) 192 [.ref m] (n, s, h) Ψ := by
  refine WO.of (Nat.le_of_ble_eq_true rfl) ?_
  have FR_h : Fr h h (inM m) := Fr.rf
  have FI_I : Fi I I (fun f => f = 15 ∨ f = 38 ∨ f = 40 ∨ f = 52 ∨ f = 56) := Fi.rf
  have FA_AR : FaS AR AR (fun b => b = 8 ∨ (24 ≤ b ∧ b ≤ 39)) := FaS.rf
  have hlen := hls.2
  obtain ⟨lb1, lb2, lb3⟩ := lc1_bd hlen
  show WX (lk tX12_sayLiterals) (mM (d + 4)) Ψ 0 [(0, .ref m)] [] (n, s, h)
  refine WX.s1 rfl rfl ?_
  refine WX.mgetK (x := (nI ls.length)) rfl hm M_h rfl K_I_33 ?_
  refine WX.s1 (L' := [(0, .ref m), (1, .int (nI ls.length))]) rfl rfl ?_
  have t239 : lc3 tC ls (lc1 ls) = litF tC ls → ∀ (hL_ : Nat → aE) (IL : Nat → Int32) (AL : Nat → Nat → Int32) (c w : Nat), Fr h hL_ (inM m) → MAt hL_ m IL AL LN → Fi I IL (fun f => f = 15 ∨ f = 38 ∨ f = 40 ∨ f = 52 ∨ f = 56) → FaS AR AL (fun b => b = 8 ∨ (24 ≤ b ∧ b ≤ 39)) → MadeIs IL AL c w → AL 8 = AR 8 → IL 15 = I 15 → IL 40 = I 40 → AL 25 = AR 25 → WX (lk tX12_sayLiterals) (mM (d + 4)) Ψ 239 [(0, .ref m), (1, .int (nI ls.length)), (2, .int (nI (hpF ls.length))), (4, .int (nI (lc3 tC ls (lc1 ls)).1))] [] (n, s, hL_) := by
    intro hlf hL_ IL AL c w FR_hL_ M_hL_ FI_IL FA_AL hMc e8 e15 e40 e25
    have hL1 : LitM IL AL ls := ⟨(FI_IL 33 (by decide)).trans hL.1, fun i hi => by rw [FA_AL 20 (by decide)]; exact hL.2 i hi⟩
    have hF1 : FrameIs IL AL lf := hF.fa e40 e25
    have hR1 : RefL IL AL tC := hRL.fa e15 e8
    rcases lc3_cs (tC := tC) (ls := ls) (lc1 ls) with e9 | ⟨tt, e1, e2, e3, e4, e9⟩
    · have hk : (lc3 tC ls (lc1 ls)).1 = 0 ∨ ((lc3 tC ls (lc1 ls)).1 = 1 ∧ 1 ≤ ls.length) := by rw [e9]; omega
      refine m_litPlain hm M_hL_ hL1 hls hk hF1 (by omega) (fun h2 I2 A2 fr2 M_h2 fi2 fa2 hF2 => ?_)
      rw [hlf] at hF2 ⊢
      exact kkP (by rw [← hlf, e9]; omega) h2 I2 A2 c w (FR_hL_.ztr fr2) M_h2 (FI_IL.zsub fi2 (fun j hj => by omega)) (FA_AL.ztr (fa2.toS (by omega))) (hMc.fa (fi2 38 (by decide)) (fa2 24 (by decide))) (hR1.fa (fi2 15 (by decide)) (fa2 8 (by decide))) hF2
    · have hk3 : (lc3 tC ls (lc1 ls)).1 = 3 := by rw [e9]
      rw [hk3]
      subst e1
      obtain ⟨r15, r8⟩ := id hR1
      have hok9 : LenOk tt.1 tt.2 := hLO
      have htb := tob_le (fun s hs => Nat.le_trans (hok9.2.2.1 s hs) hok9.2.1) hls
      have hlf2 : (litF (some tt) ls).2.2 = tob tt.1 ls := by rw [← hlf, e9]
      have hlf1 : (litF (some tt) ls).1 = 3 := by rw [← hlf, e9]
      have K_IL_33 : IL 33 = nI ls.length := hL1.1
      have K_IL_15 : IL 15 = nI tt.2 := r15
      refine WX.s1 rfl rfl ?_
      refine WX.s1 rfl rfl ?_
      refine WX.icmp rfl (fun c_242 => ?_) (fun c_242 => absurd (by decide) c_242)
      refine WX.s1 rfl rfl ?_
      refine WX.s1 rfl rfl ?_
      refine WX.icmp rfl (fun c_333 => absurd c_333 (by decide)) (fun c_333 => ?_)
      refine WX.s1 rfl rfl ?_
      refine WX.s1 rfl rfl ?_
      refine WX.mget rfl hm M_hL_ rfl ?_
      refine WX.s1 rfl rfl ?_
      refine WX.callC (vs := [.ref m, .ref (m + 8), .int 0]) rfl rfl rfl (Nat.le_of_ble_eq_true rfl) (M_hL_.rcv hm) ?_
      refine m_tob8 (L := tt.1) hm M_hL_ hL1 hls (fun s hs => ⟨r8 s hs, by have q1 := hok9.2.2.1 s hs; have q2 := hok9.2.1; omega⟩) K_IL_33 ?_
      rw [show (0 : Int32) + nI (tob tt.1 ls) = nI (tob tt.1 ls) from (nI_add 0 _).trans (congrArg nI (Nat.zero_add _))]
      show WX _ _ _ 345 [(0, .ref m), (1, .int (nI ls.length)), (2, .int (nI (hpF ls.length))), (4, .int (nI 3))] [.int (nI (tob tt.1 ls))] (n, s, hL_)
      refine WX.s1 (L' := [(0, .ref m), (1, .int (nI ls.length)), (2, .int (nI (hpF ls.length))), (4, .int (nI 3)), (5, .int (nI (tob tt.1 ls)))]) rfl rfl ?_
      refine WX.s1 rfl rfl ?_
      refine WX.s1 rfl rfl ?_
      refine WX.s1 rfl rfl ?_
      refine WX.s1 rfl rfl ?_
      refine WX.callC (vs := [.ref m, .int (nI (tob tt.1 ls))]) rfl rfl rfl (Nat.le_of_ble_eq_true rfl) (M_hL_.rcv hm) ?_
      refine m_headOf hm M_hL_ hlen (by omega) K_IL_33 ?_
      by_cases hn1 : ls.length < 1024
      · rw [if_pos hn1, if_pos (e3 hn1)]
        show WX _ _ _ 356 [(0, .ref m), (1, .int (nI ls.length)), (2, .int (nI (hpF ls.length))), (4, .int (nI 3)), (5, .int (nI (tob tt.1 ls)))] [.int 0, .int (nI 3), .ref m] (n, s, hL_)
        refine WX.s1 rfl rfl ?_
        refine WX.callC (vs := [.ref m, .int (nI 3), .int 0, .int (nI (tob tt.1 ls))]) rfl rfl rfl (Nat.le_of_ble_eq_true rfl) (M_hL_.rcv hm) ?_
        refine m_head3a hm M_hL_ hlen hn1 (by omega) hF1 (by omega) K_IL_33 (fun h2 I2 A2 fr2 M_h2 fi2 fa2 hF2 => ?_)
        show WX _ _ _ 361 [(0, .ref m), (1, .int (nI ls.length)), (2, .int (nI (hpF ls.length))), (4, .int (nI 3)), (5, .int (nI (tob tt.1 ls)))] [] (n, s, h2)
        refine WX.keep (y := 192) [0, 1, 4] (show ([0, 1, 2, 4, 5] : List Nat).Nodup by decide) rfl ?_
        have hlen2 : (lf ++ hdY 3 (tob tt.1 ls) ls).length ≤ lf.length + 4 := by rw [List.length_append]; unfold hdY chd; rw [leBy_len]; split <;> omega
        refine m_litTail hm M_h2 ⟨(fi2 33 (by decide)).trans hL1.1, fun i hi => by rw [fa2 20 (by decide)]; exact hL1.2 i hi⟩ hls hok9 (fun s hs => by rw [fa2 8 (by decide)]; exact r8 s hs) e2 (hMc.fa (fi2 38 (by decide)) (fa2 24 (by decide))) hF2 (by omega) ((fi2 15 (by decide)).trans K_IL_15) (fun h3 I3 A3 c3 w3 fr3 M_h3 fi3 fa3 hM3 hF3 => ?_)
        exact kk3 tt rfl hlf1 h3 I3 A3 c3 w3 ((FR_hL_.ztr fr2).ztr fr3) M_h3 ((FI_IL.zsub fi2 (fun j hj => by omega)).zsub fi3 (fun j hj => by omega)) ((FA_AL.ztr (fa2.toS (by omega))).ztr (fa3.mono (fun x hx => by omega))) hM3 (hR1.fa ((fi3 15 (by decide)).trans (fi2 15 (by decide))) (by rw [fa3 8 (by decide), fa2 8 (by decide)])) (by rw [hlf2]; rw [List.append_assoc] at hF3; exact hF3)
      · rw [if_neg hn1]
        show WX _ _ _ 356 [(0, .ref m), (1, .int (nI ls.length)), (2, .int (nI (hpF ls.length))), (4, .int (nI 3)), (5, .int (nI (tob tt.1 ls)))] [.int 2, .int (nI 3), .ref m] (n, s, hL_)
        refine WX.s1 rfl rfl ?_
        refine WX.callC (vs := [.ref m, .int (nI 3), .int 2, .int (nI (tob tt.1 ls))]) rfl rfl rfl (Nat.le_of_ble_eq_true rfl) (M_hL_.rcv hm) ?_
        refine m_head3b hm M_hL_ hlen hn1 (by omega) hF1 (by omega) K_IL_33 (fun h2 I2 A2 fr2 M_h2 fi2 fa2 hF2 => ?_)
        show WX _ _ _ 361 [(0, .ref m), (1, .int (nI ls.length)), (2, .int (nI (hpF ls.length))), (4, .int (nI 3)), (5, .int (nI (tob tt.1 ls)))] [] (n, s, h2)
        refine WX.keep (y := 192) [0, 1, 4] (show ([0, 1, 2, 4, 5] : List Nat).Nodup by decide) rfl ?_
        have hlen2 : (lf ++ hdY 3 (tob tt.1 ls) ls).length ≤ lf.length + 4 := by rw [List.length_append]; unfold hdY chd; rw [leBy_len]; split <;> omega
        refine m_litTail hm M_h2 ⟨(fi2 33 (by decide)).trans hL1.1, fun i hi => by rw [fa2 20 (by decide)]; exact hL1.2 i hi⟩ hls hok9 (fun s hs => by rw [fa2 8 (by decide)]; exact r8 s hs) e2 (hMc.fa (fi2 38 (by decide)) (fa2 24 (by decide))) hF2 (by omega) ((fi2 15 (by decide)).trans K_IL_15) (fun h3 I3 A3 c3 w3 fr3 M_h3 fi3 fa3 hM3 hF3 => ?_)
        exact kk3 tt rfl hlf1 h3 I3 A3 c3 w3 ((FR_hL_.ztr fr2).ztr fr3) M_h3 ((FI_IL.zsub fi2 (fun j hj => by omega)).zsub fi3 (fun j hj => by omega)) ((FA_AL.ztr (fa2.toS (by omega))).ztr (fa3.mono (fun x hx => by omega))) hM3 (hR1.fa ((fi3 15 (by decide)).trans (fi2 15 (by decide))) (by rw [fa3 8 (by decide), fa2 8 (by decide)])) (by rw [hlf2]; rw [List.append_assoc] at hF3; exact hF3)
  have hb3 : (lc3 tC ls (lc1 ls)).2.1 ≤ 8003 ∧ ((lc3 tC ls (lc1 ls)).1 < 2 ∨ (lc3 tC ls (lc1 ls)).1 = 3) := by rcases lc3_cs (tC := tC) (ls := ls) (lc1 ls) with e9 | ⟨tt, e1, e2, e3, e4, e9⟩; rw [e9]; omega; rw [e9]; exact ⟨by show chd ls.length + tob tt.1 ls ≤ _; omega, Or.inr rfl⟩
  have t111 : WX (lk tX12_sayLiterals) (mM (d + 4)) Ψ 111 [(0, .ref m), (1, .int (nI ls.length)), (2, .int (nI (hpF ls.length))), (3, .int (nI (lc3 tC ls (lc1 ls)).2.1)), (4, .int (nI (lc3 tC ls (lc1 ls)).1))] [] (n, s, h) := by
    generalize hB3 : lc3 tC ls (lc1 ls) = b3 at hb3 t239 ⊢
    refine WX.s1 rfl rfl ?_
    refine WX.s1 rfl rfl ?_
    refine WX.icmp rfl (fun c_113 => ?_) (fun c_113 => ?_)
    · skip
      have n_113 : ls.length ≤ 1 := (nI_leI (a := ls.length) (b := 1) (by omega) (by omega)).mp c_113
      refine WX.keep (y := 192) [0, 1, 2, 4] (show ([0, 1, 2, 3, 4] : List Nat).Nodup by decide) rfl ?_
      exact t239 (by unfold litF; rw [if_neg (fun z => by have := z.1; omega)]; exact hB3.symm) h I AR _ _ FR_h M_h FI_I FA_AR hM rfl rfl rfl rfl
    · skip
      have n_113 : 1 < ls.length := Nat.lt_of_not_le (fun zz_ => c_113 ((nI_leI (a := ls.length) (b := 1) (by omega) (by omega)).mpr zz_))
      refine WX.s1 rfl rfl ?_
      refine WX.callC (vs := [.ref m]) rfl rfl rfl (Nat.le_of_ble_eq_true rfl) (M_h.rcv hm) ?_
      refine m_allAlk hm M_h hL hls K_I_33 (fun hal => ?_) (fun hal => ?_)
      · show WX _ _ _ 120 [(0, .ref m), (1, .int (nI ls.length)), (2, .int (nI (hpF ls.length))), (3, .int (nI b3.2.1)), (4, .int (nI b3.1))] [.int 1] (n, s, h)
        refine WX.if_ rfl (fun c_120 => ?_) (fun c_120 => absurd (by decide) c_120)
        clear c_120
        refine WX.keep (y := 192) [0, 1, 2, 4] (show ([0, 1, 2, 3, 4] : List Nat).Nodup by decide) rfl ?_
        exact t239 (by unfold litF; rw [if_neg (fun z => z.2 hal)]; exact hB3.symm) h I AR _ _ FR_h M_h FI_I FA_AR hM rfl rfl rfl rfl
      · show WX _ _ _ 120 [(0, .ref m), (1, .int (nI ls.length)), (2, .int (nI (hpF ls.length))), (3, .int (nI b3.2.1)), (4, .int (nI b3.1))] [.int 0] (n, s, h)
        refine WX.if_ rfl (fun c_120 => absurd c_120 (by decide)) (fun c_120 => ?_)
        clear c_120
        have h0 : ls ≠ [] := fun z => by rw [z] at n_113; exact absurd n_113 (by decide)
        have h2t := two_alk hls h0 hal
        obtain ⟨lk1, lk2, lk3⟩ := len_cL hls h2t
        have hlit : litF tC ls = lc2 (dsY (wtL (dF (cL ls)) (topF (cL ls)))) (dF (cL ls)) ls b3 := by unfold litF; rw [if_pos ⟨by omega, hal⟩, hB3]
        refine WX.s1 rfl rfl ?_
        refine WX.callC (vs := [.ref m]) rfl rfl rfl (Nat.le_of_ble_eq_true rfl) (M_h.rcv hm) ?_
        refine m_lbc hm M_h hL hls K_I_33 (fun h124n1 I124n1 A124n1 fr124n1 M_h124n1 fi124n1 fa124n1 hd => ?_)
        have FR_h124n1 := FR_h.ztr fr124n1
        have K_I124n1_33 : I124n1 33 = (nI ls.length) := (fi124n1 33 (by decide)).trans K_I_33
        have FI_I124n1 : Fi I I124n1 (fun f => f = 15 ∨ f = 38 ∨ f = 40 ∨ f = 52 ∨ f = 56) := FI_I.zsub fi124n1 (fun j hj => by first | exact hj | omega)
        have FA_A124n1 : FaS AR A124n1 (fun b => b = 8 ∨ (24 ≤ b ∧ b ≤ 39)) := FA_AR.ztr (fa124n1.mono (fun x hx => by omega))
        have hM1 := hM.fa (fi124n1 38 (by decide)) (fa124n1 24 (by decide))
        have y8 : A124n1 8 = AR 8 := fa124n1 8 (by decide)
        have y15 : I124n1 15 = I 15 := fi124n1 15 (by decide)
        have y40 : I124n1 40 = I 40 := fi124n1 40 (by decide)
        have y25 : A124n1 25 = AR 25 := fa124n1 25 (by decide)
        have htop := lk1.2.1
        show WX _ _ _ 127 [(0, .ref m), (1, .int (nI ls.length)), (2, .int (nI (hpF ls.length))), (3, .int (nI b3.2.1)), (4, .int (nI b3.1))] [.int (nI (topF (cL ls)))] (n, s, h124n1)
        refine WX.s1 (L' := [(0, .ref m), (1, .int (nI ls.length)), (2, .int (nI (hpF ls.length))), (3, .int (nI b3.2.1)), (4, .int (nI b3.1)), (5, .int (nI (topF (cL ls))))]) rfl rfl ?_
        refine WX.s1 rfl rfl ?_
        refine WX.s1 rfl rfl ?_
        refine WX.callC (vs := [.ref m, .int (nI (topF (cL ls)))]) rfl rfl rfl (Nat.le_of_ble_eq_true rfl) (M_h124n1.rcv hm) ?_
        refine m_describe hm M_h124n1 hd lk1 lk3 hM1 (fun eN h3 I3 A3 cx wx fr3 M_h3 fi3 fa3 hMx => ?_) (fun yy eS h3 I3 A3 fr3 M_h3 fi3 fa3 hYx => ?_)
        · have FR_h3 := FR_h124n1.ztr fr3
          have FI_I3 : Fi I I3 (fun f => f = 15 ∨ f = 38 ∨ f = 40 ∨ f = 52 ∨ f = 56) := FI_I124n1.zsub fi3 (fun j hj => by omega)
          have FA_A3 : FaS AR A3 (fun b => b = 8 ∨ (24 ≤ b ∧ b ≤ 39)) := FA_A124n1.ztr (fa3.mono (fun x hx => by omega))
          have x8 : A3 8 = AR 8 := (fa3 8 (by decide)).trans y8
          have x15 : I3 15 = I 15 := (fi3 15 (by decide)).trans y15
          have x40 : I3 40 = I 40 := (fi3 40 (by decide)).trans y40
          have x25 : A3 25 = AR 25 := (fa3 25 (by decide)).trans y25
          have hL3 : LitM I3 A3 ls := ⟨(FI_I3 33 (by decide)).trans hL.1, fun i hi => by rw [FA_A3 20 (by decide)]; exact hL.2 i hi⟩
          have K_I3_33 : I3 33 = nI ls.length := hL3.1
          have hd3 : LnM A3 37 (dF (cL ls)) := fun s hs => ⟨by rw [fa3 37 (by decide)]; exact hd s hs, by have q1 := lk1.2.2.1 s hs; omega⟩
          have htb := tob_le (fun s hs => Nat.le_trans (lk1.2.2.1 s hs) lk1.2.1) hls
          show WX _ _ _ 135 [(0, .ref m), (1, .int (nI ls.length)), (2, .int (nI (hpF ls.length))), (3, .int (nI b3.2.1)), (4, .int (nI b3.1)), (5, .int (nI (topF (cL ls))))] [.int (-2)] (n, s, h3)
          have hfct : b3 = litF tC ls := by rw [hlit, eN]; rfl
          refine WX.s1 (L' := [(0, .ref m), (1, .int (nI ls.length)), (2, .int (nI (hpF ls.length))), (3, .int (nI b3.2.1)), (4, .int (nI b3.1)), (5, .int (nI (topF (cL ls)))), (6, .int (-2))]) rfl rfl ?_
          refine WX.s1 rfl rfl ?_
          refine WX.s1 rfl rfl ?_
          refine WX.mget rfl hm M_h3 rfl ?_
          refine WX.s1 rfl rfl ?_
          refine WX.callC (vs := [.ref m, .ref (m + 37), .int (-2)]) rfl rfl rfl (Nat.le_of_ble_eq_true rfl) (M_h3.rcv hm) ?_
          refine m_tob37 (L := (dF (cL ls))) hm M_h3 hL3 hls hd3 K_I3_33 ?_
          show WX _ _ _ 147 [(0, .ref m), (1, .int (nI ls.length)), (2, .int (nI (hpF ls.length))), (3, .int (nI b3.2.1)), (4, .int (nI b3.1)), (5, .int (nI (topF (cL ls)))), (6, .int (-2))] [.int (-2 + nI (tob (dF (cL ls)) ls))] (n, s, h3)
          refine WX.s1 (L' := [(0, .ref m), (1, .int (nI ls.length)), (2, .int (nI (hpF ls.length))), (3, .int (nI b3.2.1)), (4, .int (nI b3.1)), (5, .int (nI (topF (cL ls)))), (6, .int (-2)), (7, .int (-2 + nI (tob (dF (cL ls)) ls)))]) rfl rfl ?_
          refine WX.s1 rfl rfl ?_
          refine WX.s1 rfl rfl ?_
          refine WX.callC (vs := [.ref m, .int (-2 + nI (tob (dF (cL ls)) ls))]) rfl rfl rfl (Nat.le_of_ble_eq_true rfl) (M_h3.rcv hm) ?_
          refine m_headAny hm M_h3 hlen K_I3_33 (fun rr => ?_)
          show WX _ _ _ 155 [(0, .ref m), (1, .int (nI ls.length)), (2, .int (nI (hpF ls.length))), (3, .int (nI b3.2.1)), (4, .int (nI b3.1)), (5, .int (nI (topF (cL ls)))), (6, .int (-2)), (7, .int (-2 + nI (tob (dF (cL ls)) ls)))] [.int rr] (n, s, h3)
          refine WX.s1 (L' := [(0, .ref m), (1, .int (nI ls.length)), (2, .int (nI (hpF ls.length))), (3, .int (nI b3.2.1)), (4, .int (nI b3.1)), (5, .int (nI (topF (cL ls)))), (6, .int (-2)), (7, .int (-2 + nI (tob (dF (cL ls)) ls))), (8, .int rr)]) rfl rfl ?_
          refine WX.s1 rfl rfl ?_
          refine WX.if_ rfl (fun c_159 => ?_) (fun c_159 => absurd (by decide) c_159)
          refine WX.s1 rfl rfl ?_
          refine WX.s1 rfl rfl ?_
          refine WX.icmp rfl (fun c_185 => ?_) (fun c_185 => absurd (fun z => absurd ((nI_eq (a := b3.1) (b := 2) (by omega) (by decide)).mp z) (by omega)) c_185)
          refine WX.keep (y := 192) [0, 1, 2, 4] (show ([0, 1, 2, 3, 4, 5, 6, 7, 8] : List Nat).Nodup by decide) rfl ?_
          exact t239 hfct h3 I3 A3 _ _ FR_h3 M_h3 FI_I3 FA_A3 hMx x8 x15 x40 x25
        · have FR_h3 := FR_h124n1.ztr fr3
          have FI_I3 : Fi I I3 (fun f => f = 15 ∨ f = 38 ∨ f = 40 ∨ f = 52 ∨ f = 56) := FI_I124n1.zsub fi3 (fun j hj => by omega)
          have FA_A3 : FaS AR A3 (fun b => b = 8 ∨ (24 ≤ b ∧ b ≤ 39)) := FA_A124n1.ztr (fa3.mono (fun x hx => by omega))
          have x8 : A3 8 = AR 8 := (fa3 8 (by decide)).trans y8
          have x15 : I3 15 = I 15 := (fi3 15 (by decide)).trans y15
          have x40 : I3 40 = I 40 := (fi3 40 (by decide)).trans y40
          have x25 : A3 25 = AR 25 := (fa3 25 (by decide)).trans y25
          have hL3 : LitM I3 A3 ls := ⟨(FI_I3 33 (by decide)).trans hL.1, fun i hi => by rw [FA_A3 20 (by decide)]; exact hL.2 i hi⟩
          have K_I3_33 : I3 33 = nI ls.length := hL3.1
          have hd3 : LnM A3 37 (dF (cL ls)) := fun s hs => ⟨by rw [fa3 37 (by decide)]; exact hd s hs, by have q1 := lk1.2.2.1 s hs; omega⟩
          have htb := tob_le (fun s hs => Nat.le_trans (lk1.2.2.1 s hs) lk1.2.1) hls
          obtain ⟨wv, hMx, hlv⟩ := id hYx
          show WX _ _ _ 135 [(0, .ref m), (1, .int (nI ls.length)), (2, .int (nI (hpF ls.length))), (3, .int (nI b3.2.1)), (4, .int (nI b3.1)), (5, .int (nI (topF (cL ls))))] [.int (nI yy.length)] (n, s, h3)
          have hyl : 1 ≤ yy.length ∧ yy.length ≤ 240 := dsY_len lk1 eS
          refine WX.s1 (L' := [(0, .ref m), (1, .int (nI ls.length)), (2, .int (nI (hpF ls.length))), (3, .int (nI b3.2.1)), (4, .int (nI b3.1)), (5, .int (nI (topF (cL ls)))), (6, .int (nI yy.length))]) rfl rfl ?_
          refine WX.s1 rfl rfl ?_
          refine WX.s1 rfl rfl ?_
          refine WX.mget rfl hm M_h3 rfl ?_
          refine WX.s1 rfl rfl ?_
          refine WX.callC (vs := [.ref m, .ref (m + 37), .int (nI yy.length)]) rfl rfl rfl (Nat.le_of_ble_eq_true rfl) (M_h3.rcv hm) ?_
          refine m_tob37 (L := (dF (cL ls))) hm M_h3 hL3 hls hd3 K_I3_33 ?_
          rw [show nI yy.length + nI (tob (dF (cL ls)) ls) = nI (yy.length + tob (dF (cL ls)) ls) from nI_add _ _]
          show WX _ _ _ 147 [(0, .ref m), (1, .int (nI ls.length)), (2, .int (nI (hpF ls.length))), (3, .int (nI b3.2.1)), (4, .int (nI b3.1)), (5, .int (nI (topF (cL ls)))), (6, .int (nI yy.length))] [.int (nI (yy.length + tob (dF (cL ls)) ls))] (n, s, h3)
          refine WX.s1 (L' := [(0, .ref m), (1, .int (nI ls.length)), (2, .int (nI (hpF ls.length))), (3, .int (nI b3.2.1)), (4, .int (nI b3.1)), (5, .int (nI (topF (cL ls)))), (6, .int (nI yy.length)), (7, .int (nI (yy.length + tob (dF (cL ls)) ls)))]) rfl rfl ?_
          refine WX.s1 rfl rfl ?_
          refine WX.s1 rfl rfl ?_
          refine WX.callC (vs := [.ref m, .int (nI (yy.length + tob (dF (cL ls)) ls))]) rfl rfl rfl (Nat.le_of_ble_eq_true rfl) (M_h3.rcv hm) ?_
          refine m_headOf hm M_h3 hlen (by omega) K_I3_33 ?_
          obtain ⟨bt, hbt⟩ : ∃ q, q = yy.length + tob (dF (cL ls)) ls := ⟨_, rfl⟩
          have hl2 : litF tC ls = lcS b3 2 bt ls.length := by rw [hlit, eS, hbt]; rfl
          rw [← hbt]
          by_cases hn1 : ls.length < 1024
          · by_cases hs1 : bt < 1024
            · rw [if_pos hn1, if_pos hs1]
              show WX _ _ _ 155 [(0, .ref m), (1, .int (nI ls.length)), (2, .int (nI (hpF ls.length))), (3, .int (nI b3.2.1)), (4, .int (nI b3.1)), (5, .int (nI (topF (cL ls)))), (6, .int (nI yy.length)), (7, .int (nI bt))] [.int 0] (n, s, h3)
              have hch : chd ls.length = 3 := hb_ch hn1
              refine WX.s1 (L' := [(0, .ref m), (1, .int (nI ls.length)), (2, .int (nI (hpF ls.length))), (3, .int (nI b3.2.1)), (4, .int (nI b3.1)), (5, .int (nI (topF (cL ls)))), (6, .int (nI yy.length)), (7, .int (nI bt)), (8, .int 0)]) rfl rfl ?_
              refine WX.s1 rfl rfl ?_
              refine WX.if_ rfl (fun c_159 => absurd c_159 (fun zz_ => absurd ((nI_leI (a := yy.length) (b := 0) (by omega) (by omega)).mp zz_) (Nat.not_le.mpr (by omega)))) (fun c_159 => ?_)
              clear c_159
              refine WX.s1 rfl rfl ?_
              refine WX.if_ rfl (fun c_164 => absurd c_164 (by decide)) (fun c_164 => ?_)
              clear c_164
              refine WX.s1 rfl rfl ?_
              refine WX.callC (vs := [.int 0]) rfl rfl rfl (Nat.le_of_ble_eq_true rfl) rfl ?_
              refine m_headB ?_
              rw [show hbI 0 = 3 by decide]
              show WX _ _ _ 172 [(0, .ref m), (1, .int (nI ls.length)), (2, .int (nI (hpF ls.length))), (3, .int (nI b3.2.1)), (4, .int (nI b3.1)), (5, .int (nI (topF (cL ls)))), (6, .int (nI yy.length)), (7, .int (nI bt)), (8, .int 0)] [.int 3] (n, s, h3)
              refine WX.s1 rfl rfl ?_
              refine WX.s1 (S' := [.int (3 + (nI bt))]) rfl rfl ?_
              rw [show (3 + (nI bt)) = nI (3 + bt) from nI_add 3 bt]
              refine WX.s1 rfl rfl ?_
              refine WX.icmp rfl (fun c_176 => ?_) (fun c_176 => ?_)
              · skip
                have n_176 : b3.2.1 ≤ (3 + bt) := (nI_leI (a := b3.2.1) (b := 3 + bt) (by omega) (by omega)).mp c_176
                have hfct : b3 = litF tC ls := by rw [hl2]; rcases lcS_cs b3 2 bt ls.length with ⟨q, z⟩ | ⟨q, z⟩; exact absurd q.2 (by rw [hch]; omega); exact z.symm
                refine WX.s1 rfl rfl ?_
                refine WX.s1 rfl rfl ?_
                refine WX.icmp rfl (fun c_185 => ?_) (fun c_185 => absurd (fun z => absurd ((nI_eq (a := b3.1) (b := 2) (by omega) (by decide)).mp z) (by omega)) c_185)
                refine WX.keep (y := 192) [0, 1, 2, 4] (show ([0, 1, 2, 3, 4, 5, 6, 7, 8] : List Nat).Nodup by decide) rfl ?_
                exact t239 hfct h3 I3 A3 _ _ FR_h3 M_h3 FI_I3 FA_A3 hMx x8 x15 x40 x25
              · skip
                have n_176 : (3 + bt) < b3.2.1 := Nat.lt_of_not_le (fun zz_ => c_176 ((nI_leI (a := b3.2.1) (b := 3 + bt) (by omega) (by omega)).mpr zz_))
                refine WX.s1 rfl rfl ?_
                refine WX.s1 (L' := [(0, .ref m), (1, .int (nI ls.length)), (2, .int (nI (hpF ls.length))), (3, .int (nI b3.2.1)), (4, .int 2), (5, .int (nI (topF (cL ls)))), (6, .int (nI yy.length)), (7, .int (nI bt)), (8, .int 0)]) rfl rfl ?_
                have hl9 : litF tC ls = (2, chd ls.length + bt, bt) := by rw [hl2]; rcases lcS_cs b3 2 bt ls.length with ⟨q, z⟩ | ⟨q, z⟩; exact z; exact absurd ⟨fun _ => hs1, by rw [hch]; exact n_176⟩ q
                refine WX.s1 rfl rfl ?_
                refine WX.s1 rfl rfl ?_
                refine WX.icmp rfl (fun c_185 => absurd c_185 (by decide)) (fun c_185 => ?_)
                refine WX.s1 rfl rfl ?_
                refine WX.s1 rfl rfl ?_
                refine WX.s1 rfl rfl ?_
                refine WX.s1 rfl rfl ?_
                refine WX.callC (vs := [.ref m, .int (nI 2), .int 0, .int (nI bt)]) rfl rfl rfl (Nat.le_of_ble_eq_true rfl) (M_h3.rcv hm) ?_
                refine m_head2a hm M_h3 hlen hn1 (by omega) (hF.fa x40 x25) (by omega) K_I3_33 (fun h4 I4 A4 fr4 M_h4 fi4 fa4 hF4 => ?_)
                have FR_h4 := FR_h3.ztr fr4
                have FI_I4 : Fi I I4 (fun f => f = 15 ∨ f = 38 ∨ f = 40 ∨ f = 52 ∨ f = 56) := FI_I3.zsub fi4 (fun j hj => by omega)
                have FA_A4 : FaS AR A4 (fun b => b = 8 ∨ (24 ≤ b ∧ b ≤ 39)) := FA_A3.ztr (fa4.toS (by omega))
                have hY4 := hYx.fa (fi4 38 (by decide)) (fa4 24 (by decide))
                show WX _ _ _ 198 [(0, .ref m), (1, .int (nI ls.length)), (2, .int (nI (hpF ls.length))), (3, .int (nI b3.2.1)), (4, .int 2), (5, .int (nI (topF (cL ls)))), (6, .int (nI yy.length)), (7, .int (nI bt)), (8, .int 0)] [] (n, s, h4)
                refine WX.s1 rfl rfl ?_
                have hlen2 : (lf ++ hdY 2 bt ls).length ≤ lf.length + 4 := by rw [List.length_append]; unfold hdY chd; rw [leBy_len]; split <;> omega
                obtain ⟨w5, hM5, hl5⟩ := hY4
                refine WX.callC (vs := [.ref m]) rfl rfl rfl (Nat.le_of_ble_eq_true rfl) (M_h4.rcv hm) ?_
                refine m_sayMade hm M_h4 hM5 hF4 (by omega) hM5.1 (fun h5 I5 A5 fr5 M_h5 fi5 fa5 hF5 => ?_)
                rw [Nat.mul_div_cancel_left _ (by decide), hl5] at hF5
                have FR_h5 := FR_h4.ztr fr5
                have FI_I5 : Fi I I5 (fun f => f = 15 ∨ f = 38 ∨ f = 40 ∨ f = 52 ∨ f = 56) := FI_I4.zsub fi5 (fun j hj => by omega)
                have FA_A5 : FaS AR A5 (fun b => b = 8 ∨ (24 ≤ b ∧ b ≤ 39)) := FA_A4.ztr (fa5.toS (by omega))
                have hM6 := hM5.fa (fi5 38 (by decide)) (fa5 24 (by decide))
                have hd5 : ∀ s, s < 256 → A5 37 s = nI ((dF (cL ls)) s) := fun s hs => by rw [fa5 37 (by decide), fa4 37 (by decide)]; exact (hd3 s hs).1
                show WX _ _ _ 202 [(0, .ref m), (1, .int (nI ls.length)), (2, .int (nI (hpF ls.length))), (3, .int (nI b3.2.1)), (4, .int 2), (5, .int (nI (topF (cL ls)))), (6, .int (nI yy.length)), (7, .int (nI bt)), (8, .int 0)] [] (n, s, h5)
                refine WX.keep (y := 192) [0, 1, 2, 4, 5] (show ([0, 1, 2, 3, 4, 5, 6, 7, 8] : List Nat).Nodup by decide) rfl ?_
                refine WX.s1 rfl rfl ?_
                refine WX.s1 (L' := [(0, .ref m), (1, .int (nI ls.length)), (2, .int (nI (hpF ls.length))), (4, .int 2), (5, .int (nI (topF (cL ls)))), (9, .int 0)]) rfl rfl ?_
                have lp9 : ∀ (q i : Nat) (hM_ : Nat → aE) (AM : Nat → Nat → Int32), i + q = 256 → Fr h hM_ (inM m) → MAt hM_ m I5 AM LN → FaS A5 AM (fun b => b = 8) → (∀ s, s < i → AM 8 s = nI ((dF (cL ls)) s)) → WX (lk tX12_sayLiterals) (mM (d + 4)) Ψ 205 [(0, .ref m), (1, .int (nI ls.length)), (2, .int (nI (hpF ls.length))), (4, .int 2), (5, .int (nI (topF (cL ls)))), (9, .int (nI i))] [] (n, s, hM_) := by
                  intro q
                  induction q with
                  | zero =>
                    intro i hM_ AM hi FR_hM_ M_hM_ FA9 h8
                    obtain rfl : i = 256 := by omega
                    refine WX.s1 rfl rfl ?_
                    refine WX.s1 rfl rfl ?_
                    refine WX.icmp rfl (fun c_210 => ?_) (fun c_210 => absurd ((nI_leI (a := 256) (b := 256) (by omega) (by omega)).mpr (by omega)) c_210)
                    clear c_210
                    refine WX.s1 rfl rfl ?_
                    refine WX.s1 rfl rfl ?_
                    have K_I5_38 := hM6.1
                    have K_I5_40 := hF5.1
                    refine WX.mput rfl hm M_hM_ (rfl) (by decide) (fun _ => rfl) (fun h236n2 I236n2 e_I236n2 M_h236n2 frh236n2 => ?_)
                    have FR_h236n2 := FR_hM_.ztr frh236n2
                    have FI_I236n2 : Fi I I236n2 (fun f => f = 15 ∨ f = 38 ∨ f = 40 ∨ f = 52 ∨ f = 56) := FI_I5.zup e_I236n2 (by first | exact rfl | decide | omega)
                    have K_I236n2_38 : I236n2 38 = (nI (8 * yy.length)) := by rw [e_I236n2]; exact (pk_un (by decide)).trans K_I5_38
                    have K_I236n2_40 : I236n2 40 = (nI (lf ++ hdY 2 bt ls ++ yy).length) := by rw [e_I236n2]; exact (pk_un (by decide)).trans K_I5_40
                    have K_I236n2_15 : I236n2 15 = (nI (topF (cL ls))) := by rw [e_I236n2]; exact pk_us
                    clear M_hM_ FR_hM_ FI_I5 e_I236n2 frh236n2 K_I5_38 K_I5_40
                    have k38 : I236n2 38 = I5 38 := K_I236n2_38.trans hM6.1.symm
                    have k40 : I236n2 40 = I5 40 := K_I236n2_40.trans hF5.1.symm
                    have hfi : Fi I I236n2 (fun f => f = 15 ∨ f = 38 ∨ f = 40 ∨ f = 52 ∨ f = 56) := FI_I236n2
                    refine WX.s1 rfl rfl ?_
                    refine WX.s1 rfl rfl ?_
                    refine WX.icmp rfl (fun c_242 => ?_) (fun c_242 => absurd (by decide) c_242)
                    refine WX.s1 rfl rfl ?_
                    refine WX.s1 rfl rfl ?_
                    refine WX.icmp rfl (fun c_333 => ?_) (fun c_333 => absurd (by decide) c_333)
                    refine WX.keep (y := 192) [0, 1, 4] (show ([0, 1, 2, 4, 5, 9] : List Nat).Nodup by decide) rfl ?_
                    refine m_litTail (k := 2) hm M_h236n2 ⟨(hfi 33 (by decide)).trans hL.1, fun i hi => by rw [FA9 20 (by decide), FA_A5 20 (by decide)]; exact hL.2 i hi⟩ hls lk1 h8 lk2 (hM6.fa k38 (FA9 24 (by decide))) (hF5.fa k40 (FA9 25 (by decide))) (by rw [List.length_append]; omega) K_I236n2_15 (fun h7 I7 A7 c7 w7 fr7 M_h7 fi7 fa7 hM7 hF7 => ?_)
                    exact kk2 yy eS (by rw [hl9]) h7 I7 A7 c7 w7 (FR_h236n2.ztr fr7) M_h7 (hfi.zsub fi7 (fun j hj => by omega)) ((FA_A5.ztr (FA9.mono (fun x hx => Or.inl hx))).ztr (fa7.mono (fun x hx => by omega))) hM7 (RefL.mk ((fi7 15 (by decide)).trans K_I236n2_15) (fun s hs => by rw [fa7 8 (by decide)]; exact h8 s hs)) (by rw [hl9]; rw [List.append_assoc, List.append_assoc] at hF7; exact hF7)
                  | succ q ih9 =>
                    intro i hM_ AM hi FR_hM_ M_hM_ FA9 h8
                    refine WX.s1 rfl rfl ?_
                    refine WX.s1 rfl rfl ?_
                    refine WX.icmp rfl (fun c_210 => absurd c_210 (fun zz_ => absurd ((nI_leI (a := 256) (b := i) (by omega) (by omega)).mp zz_) (Nat.not_le.mpr (by omega)))) (fun c_210 => ?_)
                    clear c_210
                    refine WX.s1 rfl rfl ?_
                    refine WX.mget rfl hm M_hM_ rfl ?_
                    refine WX.s1 rfl rfl ?_
                    refine WX.s1 rfl rfl ?_
                    refine WX.mget rfl hm M_hM_ rfl ?_
                    refine WX.s1 rfl rfl ?_
                    refine WX.mald (c := 37) rfl hm M_hM_ (by decide) (by decide) (by decide) (by decide) (vp_in_nI (N := 256) (by omega) (by decide)) ?_
                    rw [nI_clamp (by omega), FA9 37 (by decide), hd5 i (by omega)]
                    refine WX.mast (c := 8) rfl hm M_hM_ (by decide) (by decide) (by decide) (by decide) (vp_in_nI (N := 256) (by omega) (by decide)) (fun h226n3 A226n3 e_A226n3 M_h226n3 frh226n3 => ?_)
                    try dsimp only at e_A226n3
                    have FR_h226n3 := FR_hM_.ztr frh226n3
                    clear M_hM_ FR_hM_ frh226n3
                    refine WX.s1 (L' := [(0, .ref m), (1, .int (nI ls.length)), (2, .int (nI (hpF ls.length))), (4, .int 2), (5, .int (nI (topF (cL ls)))), (9, .int ((nI i) + 1))]) rfl rfl ?_
                    rw [show ((nI i) + 1) = nI (i + 1) from nI_add i 1]
                    refine WX.s1 rfl rfl ?_
                    rw [nI_clamp (by omega)] at e_A226n3
                    refine ih9 (i + 1) h226n3 A226n3 (by omega) FR_h226n3 M_h226n3 (FA9.ast e_A226n3 rfl) (fun q hq => ?_)
                    rw [e_A226n3, upA_same]
                    by_cases z : q = i
                    · rw [z, pk_us]
                    · rw [pk_un z]; exact h8 q (by omega)
                exact lp9 256 0 h5 A5 (by omega) FR_h5 M_h5 FaS.rf (fun q hq => absurd hq (Nat.not_lt_zero q))
            · rw [if_pos hn1, if_neg hs1]
              show WX _ _ _ 155 [(0, .ref m), (1, .int (nI ls.length)), (2, .int (nI (hpF ls.length))), (3, .int (nI b3.2.1)), (4, .int (nI b3.1)), (5, .int (nI (topF (cL ls)))), (6, .int (nI yy.length)), (7, .int (nI bt))] [.int (-1)] (n, s, h3)
              have hfct : b3 = litF tC ls := by rw [hl2]; rcases lcS_cs b3 2 bt ls.length with ⟨q, z⟩ | ⟨q, z⟩; exact absurd (q.1 hn1) hs1; exact z.symm
              refine WX.s1 (L' := [(0, .ref m), (1, .int (nI ls.length)), (2, .int (nI (hpF ls.length))), (3, .int (nI b3.2.1)), (4, .int (nI b3.1)), (5, .int (nI (topF (cL ls)))), (6, .int (nI yy.length)), (7, .int (nI bt)), (8, .int (-1))]) rfl rfl ?_
              refine WX.s1 rfl rfl ?_
              refine WX.if_ rfl (fun c_159 => absurd c_159 (fun zz_ => absurd ((nI_leI (a := yy.length) (b := 0) (by omega) (by omega)).mp zz_) (Nat.not_le.mpr (by omega)))) (fun c_159 => ?_)
              clear c_159
              refine WX.s1 rfl rfl ?_
              refine WX.if_ rfl (fun c_164 => ?_) (fun c_164 => absurd (by decide) c_164)
              clear c_164
              refine WX.s1 rfl rfl ?_
              refine WX.s1 rfl rfl ?_
              refine WX.icmp rfl (fun c_185 => ?_) (fun c_185 => absurd (fun z => absurd ((nI_eq (a := b3.1) (b := 2) (by omega) (by decide)).mp z) (by omega)) c_185)
              refine WX.keep (y := 192) [0, 1, 2, 4] (show ([0, 1, 2, 3, 4, 5, 6, 7, 8] : List Nat).Nodup by decide) rfl ?_
              exact t239 hfct h3 I3 A3 _ _ FR_h3 M_h3 FI_I3 FA_A3 hMx x8 x15 x40 x25
          · rw [if_neg hn1]
            show WX _ _ _ 155 [(0, .ref m), (1, .int (nI ls.length)), (2, .int (nI (hpF ls.length))), (3, .int (nI b3.2.1)), (4, .int (nI b3.1)), (5, .int (nI (topF (cL ls)))), (6, .int (nI yy.length)), (7, .int (nI bt))] [.int 2] (n, s, h3)
            have hch : chd ls.length = 4 := hb_ch2 hn1
            refine WX.s1 (L' := [(0, .ref m), (1, .int (nI ls.length)), (2, .int (nI (hpF ls.length))), (3, .int (nI b3.2.1)), (4, .int (nI b3.1)), (5, .int (nI (topF (cL ls)))), (6, .int (nI yy.length)), (7, .int (nI bt)), (8, .int 2)]) rfl rfl ?_
            refine WX.s1 rfl rfl ?_
            refine WX.if_ rfl (fun c_159 => absurd c_159 (fun zz_ => absurd ((nI_leI (a := yy.length) (b := 0) (by omega) (by omega)).mp zz_) (Nat.not_le.mpr (by omega)))) (fun c_159 => ?_)
            clear c_159
            refine WX.s1 rfl rfl ?_
            refine WX.if_ rfl (fun c_164 => absurd c_164 (by decide)) (fun c_164 => ?_)
            clear c_164
            refine WX.s1 rfl rfl ?_
            refine WX.callC (vs := [.int 2]) rfl rfl rfl (Nat.le_of_ble_eq_true rfl) rfl ?_
            refine m_headB ?_
            rw [show hbI 2 = 4 by decide]
            show WX _ _ _ 172 [(0, .ref m), (1, .int (nI ls.length)), (2, .int (nI (hpF ls.length))), (3, .int (nI b3.2.1)), (4, .int (nI b3.1)), (5, .int (nI (topF (cL ls)))), (6, .int (nI yy.length)), (7, .int (nI bt)), (8, .int 2)] [.int 4] (n, s, h3)
            refine WX.s1 rfl rfl ?_
            refine WX.s1 (S' := [.int (4 + (nI bt))]) rfl rfl ?_
            rw [show (4 + (nI bt)) = nI (4 + bt) from nI_add 4 bt]
            refine WX.s1 rfl rfl ?_
            refine WX.icmp rfl (fun c_176 => ?_) (fun c_176 => ?_)
            · skip
              have n_176 : b3.2.1 ≤ (4 + bt) := (nI_leI (a := b3.2.1) (b := 4 + bt) (by omega) (by omega)).mp c_176
              have hfct : b3 = litF tC ls := by rw [hl2]; rcases lcS_cs b3 2 bt ls.length with ⟨q, z⟩ | ⟨q, z⟩; exact absurd q.2 (by rw [hch]; omega); exact z.symm
              refine WX.s1 rfl rfl ?_
              refine WX.s1 rfl rfl ?_
              refine WX.icmp rfl (fun c_185 => ?_) (fun c_185 => absurd (fun z => absurd ((nI_eq (a := b3.1) (b := 2) (by omega) (by decide)).mp z) (by omega)) c_185)
              refine WX.keep (y := 192) [0, 1, 2, 4] (show ([0, 1, 2, 3, 4, 5, 6, 7, 8] : List Nat).Nodup by decide) rfl ?_
              exact t239 hfct h3 I3 A3 _ _ FR_h3 M_h3 FI_I3 FA_A3 hMx x8 x15 x40 x25
            · skip
              have n_176 : (4 + bt) < b3.2.1 := Nat.lt_of_not_le (fun zz_ => c_176 ((nI_leI (a := b3.2.1) (b := 4 + bt) (by omega) (by omega)).mpr zz_))
              refine WX.s1 rfl rfl ?_
              refine WX.s1 (L' := [(0, .ref m), (1, .int (nI ls.length)), (2, .int (nI (hpF ls.length))), (3, .int (nI b3.2.1)), (4, .int 2), (5, .int (nI (topF (cL ls)))), (6, .int (nI yy.length)), (7, .int (nI bt)), (8, .int 2)]) rfl rfl ?_
              have hl9 : litF tC ls = (2, chd ls.length + bt, bt) := by rw [hl2]; rcases lcS_cs b3 2 bt ls.length with ⟨q, z⟩ | ⟨q, z⟩; exact z; exact absurd ⟨fun z => absurd z hn1, by rw [hch]; exact n_176⟩ q
              refine WX.s1 rfl rfl ?_
              refine WX.s1 rfl rfl ?_
              refine WX.icmp rfl (fun c_185 => absurd c_185 (by decide)) (fun c_185 => ?_)
              refine WX.s1 rfl rfl ?_
              refine WX.s1 rfl rfl ?_
              refine WX.s1 rfl rfl ?_
              refine WX.s1 rfl rfl ?_
              refine WX.callC (vs := [.ref m, .int (nI 2), .int 2, .int (nI bt)]) rfl rfl rfl (Nat.le_of_ble_eq_true rfl) (M_h3.rcv hm) ?_
              refine m_head2b hm M_h3 hlen hn1 (by omega) (hF.fa x40 x25) (by omega) K_I3_33 (fun h4 I4 A4 fr4 M_h4 fi4 fa4 hF4 => ?_)
              have FR_h4 := FR_h3.ztr fr4
              have FI_I4 : Fi I I4 (fun f => f = 15 ∨ f = 38 ∨ f = 40 ∨ f = 52 ∨ f = 56) := FI_I3.zsub fi4 (fun j hj => by omega)
              have FA_A4 : FaS AR A4 (fun b => b = 8 ∨ (24 ≤ b ∧ b ≤ 39)) := FA_A3.ztr (fa4.toS (by omega))
              have hY4 := hYx.fa (fi4 38 (by decide)) (fa4 24 (by decide))
              show WX _ _ _ 198 [(0, .ref m), (1, .int (nI ls.length)), (2, .int (nI (hpF ls.length))), (3, .int (nI b3.2.1)), (4, .int 2), (5, .int (nI (topF (cL ls)))), (6, .int (nI yy.length)), (7, .int (nI bt)), (8, .int 2)] [] (n, s, h4)
              refine WX.s1 rfl rfl ?_
              have hlen2 : (lf ++ hdY 2 bt ls).length ≤ lf.length + 4 := by rw [List.length_append]; unfold hdY chd; rw [leBy_len]; split <;> omega
              obtain ⟨w5, hM5, hl5⟩ := hY4
              refine WX.callC (vs := [.ref m]) rfl rfl rfl (Nat.le_of_ble_eq_true rfl) (M_h4.rcv hm) ?_
              refine m_sayMade hm M_h4 hM5 hF4 (by omega) hM5.1 (fun h5 I5 A5 fr5 M_h5 fi5 fa5 hF5 => ?_)
              rw [Nat.mul_div_cancel_left _ (by decide), hl5] at hF5
              have FR_h5 := FR_h4.ztr fr5
              have FI_I5 : Fi I I5 (fun f => f = 15 ∨ f = 38 ∨ f = 40 ∨ f = 52 ∨ f = 56) := FI_I4.zsub fi5 (fun j hj => by omega)
              have FA_A5 : FaS AR A5 (fun b => b = 8 ∨ (24 ≤ b ∧ b ≤ 39)) := FA_A4.ztr (fa5.toS (by omega))
              have hM6 := hM5.fa (fi5 38 (by decide)) (fa5 24 (by decide))
              have hd5 : ∀ s, s < 256 → A5 37 s = nI ((dF (cL ls)) s) := fun s hs => by rw [fa5 37 (by decide), fa4 37 (by decide)]; exact (hd3 s hs).1
              show WX _ _ _ 202 [(0, .ref m), (1, .int (nI ls.length)), (2, .int (nI (hpF ls.length))), (3, .int (nI b3.2.1)), (4, .int 2), (5, .int (nI (topF (cL ls)))), (6, .int (nI yy.length)), (7, .int (nI bt)), (8, .int 2)] [] (n, s, h5)
              refine WX.keep (y := 192) [0, 1, 2, 4, 5] (show ([0, 1, 2, 3, 4, 5, 6, 7, 8] : List Nat).Nodup by decide) rfl ?_
              refine WX.s1 rfl rfl ?_
              refine WX.s1 (L' := [(0, .ref m), (1, .int (nI ls.length)), (2, .int (nI (hpF ls.length))), (4, .int 2), (5, .int (nI (topF (cL ls)))), (9, .int 0)]) rfl rfl ?_
              have lp9 : ∀ (q i : Nat) (hM_ : Nat → aE) (AM : Nat → Nat → Int32), i + q = 256 → Fr h hM_ (inM m) → MAt hM_ m I5 AM LN → FaS A5 AM (fun b => b = 8) → (∀ s, s < i → AM 8 s = nI ((dF (cL ls)) s)) → WX (lk tX12_sayLiterals) (mM (d + 4)) Ψ 205 [(0, .ref m), (1, .int (nI ls.length)), (2, .int (nI (hpF ls.length))), (4, .int 2), (5, .int (nI (topF (cL ls)))), (9, .int (nI i))] [] (n, s, hM_) := by
                intro q
                induction q with
                | zero =>
                  intro i hM_ AM hi FR_hM_ M_hM_ FA9 h8
                  obtain rfl : i = 256 := by omega
                  refine WX.s1 rfl rfl ?_
                  refine WX.s1 rfl rfl ?_
                  refine WX.icmp rfl (fun c_210 => ?_) (fun c_210 => absurd ((nI_leI (a := 256) (b := 256) (by omega) (by omega)).mpr (by omega)) c_210)
                  clear c_210
                  refine WX.s1 rfl rfl ?_
                  refine WX.s1 rfl rfl ?_
                  have K_I5_38 := hM6.1
                  have K_I5_40 := hF5.1
                  refine WX.mput rfl hm M_hM_ (rfl) (by decide) (fun _ => rfl) (fun h236n4 I236n4 e_I236n4 M_h236n4 frh236n4 => ?_)
                  have FR_h236n4 := FR_hM_.ztr frh236n4
                  have FI_I236n4 : Fi I I236n4 (fun f => f = 15 ∨ f = 38 ∨ f = 40 ∨ f = 52 ∨ f = 56) := FI_I5.zup e_I236n4 (by first | exact rfl | decide | omega)
                  have K_I236n4_38 : I236n4 38 = (nI (8 * yy.length)) := by rw [e_I236n4]; exact (pk_un (by decide)).trans K_I5_38
                  have K_I236n4_40 : I236n4 40 = (nI (lf ++ hdY 2 bt ls ++ yy).length) := by rw [e_I236n4]; exact (pk_un (by decide)).trans K_I5_40
                  have K_I236n4_15 : I236n4 15 = (nI (topF (cL ls))) := by rw [e_I236n4]; exact pk_us
                  clear M_hM_ FR_hM_ FI_I5 e_I236n4 frh236n4 K_I5_38 K_I5_40
                  have k38 : I236n4 38 = I5 38 := K_I236n4_38.trans hM6.1.symm
                  have k40 : I236n4 40 = I5 40 := K_I236n4_40.trans hF5.1.symm
                  have hfi : Fi I I236n4 (fun f => f = 15 ∨ f = 38 ∨ f = 40 ∨ f = 52 ∨ f = 56) := FI_I236n4
                  refine WX.s1 rfl rfl ?_
                  refine WX.s1 rfl rfl ?_
                  refine WX.icmp rfl (fun c_242 => ?_) (fun c_242 => absurd (by decide) c_242)
                  refine WX.s1 rfl rfl ?_
                  refine WX.s1 rfl rfl ?_
                  refine WX.icmp rfl (fun c_333 => ?_) (fun c_333 => absurd (by decide) c_333)
                  refine WX.keep (y := 192) [0, 1, 4] (show ([0, 1, 2, 4, 5, 9] : List Nat).Nodup by decide) rfl ?_
                  refine m_litTail (k := 2) hm M_h236n4 ⟨(hfi 33 (by decide)).trans hL.1, fun i hi => by rw [FA9 20 (by decide), FA_A5 20 (by decide)]; exact hL.2 i hi⟩ hls lk1 h8 lk2 (hM6.fa k38 (FA9 24 (by decide))) (hF5.fa k40 (FA9 25 (by decide))) (by rw [List.length_append]; omega) K_I236n4_15 (fun h7 I7 A7 c7 w7 fr7 M_h7 fi7 fa7 hM7 hF7 => ?_)
                  exact kk2 yy eS (by rw [hl9]) h7 I7 A7 c7 w7 (FR_h236n4.ztr fr7) M_h7 (hfi.zsub fi7 (fun j hj => by omega)) ((FA_A5.ztr (FA9.mono (fun x hx => Or.inl hx))).ztr (fa7.mono (fun x hx => by omega))) hM7 (RefL.mk ((fi7 15 (by decide)).trans K_I236n4_15) (fun s hs => by rw [fa7 8 (by decide)]; exact h8 s hs)) (by rw [hl9]; rw [List.append_assoc, List.append_assoc] at hF7; exact hF7)
                | succ q ih9 =>
                  intro i hM_ AM hi FR_hM_ M_hM_ FA9 h8
                  refine WX.s1 rfl rfl ?_
                  refine WX.s1 rfl rfl ?_
                  refine WX.icmp rfl (fun c_210 => absurd c_210 (fun zz_ => absurd ((nI_leI (a := 256) (b := i) (by omega) (by omega)).mp zz_) (Nat.not_le.mpr (by omega)))) (fun c_210 => ?_)
                  clear c_210
                  refine WX.s1 rfl rfl ?_
                  refine WX.mget rfl hm M_hM_ rfl ?_
                  refine WX.s1 rfl rfl ?_
                  refine WX.s1 rfl rfl ?_
                  refine WX.mget rfl hm M_hM_ rfl ?_
                  refine WX.s1 rfl rfl ?_
                  refine WX.mald (c := 37) rfl hm M_hM_ (by decide) (by decide) (by decide) (by decide) (vp_in_nI (N := 256) (by omega) (by decide)) ?_
                  rw [nI_clamp (by omega), FA9 37 (by decide), hd5 i (by omega)]
                  refine WX.mast (c := 8) rfl hm M_hM_ (by decide) (by decide) (by decide) (by decide) (vp_in_nI (N := 256) (by omega) (by decide)) (fun h226n5 A226n5 e_A226n5 M_h226n5 frh226n5 => ?_)
                  try dsimp only at e_A226n5
                  have FR_h226n5 := FR_hM_.ztr frh226n5
                  clear M_hM_ FR_hM_ frh226n5
                  refine WX.s1 (L' := [(0, .ref m), (1, .int (nI ls.length)), (2, .int (nI (hpF ls.length))), (4, .int 2), (5, .int (nI (topF (cL ls)))), (9, .int ((nI i) + 1))]) rfl rfl ?_
                  rw [show ((nI i) + 1) = nI (i + 1) from nI_add i 1]
                  refine WX.s1 rfl rfl ?_
                  rw [nI_clamp (by omega)] at e_A226n5
                  refine ih9 (i + 1) h226n5 A226n5 (by omega) FR_h226n5 M_h226n5 (FA9.ast e_A226n5 rfl) (fun q hq => ?_)
                  rw [e_A226n5, upA_same]
                  by_cases z : q = i
                  · rw [z, pk_us]
                  · rw [pk_un z]; exact h8 q (by omega)
              exact lp9 256 0 h5 A5 (by omega) FR_h5 M_h5 FaS.rf (fun q hq => absurd hq (Nat.not_lt_zero q))
  have t56 : WX (lk tX12_sayLiterals) (mM (d + 4)) Ψ 56 [(0, .ref m), (1, .int (nI ls.length)), (2, .int (nI (hpF ls.length))), (3, .int (nI (lc1 ls).2.1)), (4, .int (nI (lc1 ls).1))] [] (n, s, h) := by
    cases tC with
    | none =>
      have K_I_15 : I 15 = 0 := hRL
      refine WX.s1 rfl rfl ?_
      refine WX.callC (vs := [.ref m]) rfl rfl rfl (Nat.le_of_ble_eq_true rfl) (M_h.rcv hm) ?_
      refine m_codedN hm M_h hL hls K_I_33 K_I_15 ?_
      show WX _ _ _ 60 [(0, .ref m), (1, .int (nI ls.length)), (2, .int (nI (hpF ls.length))), (3, .int (nI (lc1 ls).2.1)), (4, .int (nI (lc1 ls).1))] [.int 0] (n, s, h)
      refine WX.if_ rfl (fun c_60 => ?_) (fun c_60 => absurd (by decide) c_60)
      clear c_60
      exact t111
    | some tt =>
      obtain ⟨r15, r8⟩ := id hRL
      have hok9 : LenOk tt.1 tt.2 := hLO
      have htb := tob_le (fun s hs => Nat.le_trans (hok9.2.2.1 s hs) hok9.2.1) hls
      refine WX.s1 rfl rfl ?_
      refine WX.callC (vs := [.ref m]) rfl rfl rfl (Nat.le_of_ble_eq_true rfl) (M_h.rcv hm) ?_
      refine m_codedS (L := tt.1) (t := tt.2) hm M_h hL hls (fun s hs => ⟨r8 s hs, Nat.le_trans (hok9.2.2.1 s hs) hok9.2.1⟩) hok9.1 hok9.2.1 K_I_33 r15 (fun hall => ?_) (fun hall => ?_)
      · have e3 : lc3 (some tt) ls (lc1 ls) = lcS (lc1 ls) 3 (tob tt.1 ls) ls.length := if_pos hall
        show WX _ _ _ 60 [(0, .ref m), (1, .int (nI ls.length)), (2, .int (nI (hpF ls.length))), (3, .int (nI (lc1 ls).2.1)), (4, .int (nI (lc1 ls).1))] [.int 1] (n, s, h)
        refine WX.if_ rfl (fun c_60 => absurd c_60 (by decide)) (fun c_60 => ?_)
        clear c_60
        refine WX.s1 rfl rfl ?_
        refine WX.s1 rfl rfl ?_
        refine WX.mget rfl hm M_h rfl ?_
        refine WX.s1 rfl rfl ?_
        refine WX.callC (vs := [.ref m, .ref (m + 8), .int 0]) rfl rfl rfl (Nat.le_of_ble_eq_true rfl) (M_h.rcv hm) ?_
        refine m_tob8 (L := tt.1) hm M_h hL hls (fun s hs => ⟨r8 s hs, by have q1 := hok9.2.2.1 s hs; have q2 := hok9.2.1; omega⟩) K_I_33 ?_
        rw [show (0 : Int32) + nI (tob tt.1 ls) = nI (tob tt.1 ls) from (nI_add 0 _).trans (congrArg nI (Nat.zero_add _))]
        show WX _ _ _ 72 [(0, .ref m), (1, .int (nI ls.length)), (2, .int (nI (hpF ls.length))), (3, .int (nI (lc1 ls).2.1)), (4, .int (nI (lc1 ls).1))] [.int (nI (tob tt.1 ls))] (n, s, h)
        refine WX.s1 (L' := [(0, .ref m), (1, .int (nI ls.length)), (2, .int (nI (hpF ls.length))), (3, .int (nI (lc1 ls).2.1)), (4, .int (nI (lc1 ls).1)), (5, .int (nI (tob tt.1 ls)))]) rfl rfl ?_
        refine WX.s1 rfl rfl ?_
        refine WX.s1 rfl rfl ?_
        refine WX.callC (vs := [.ref m, .int (nI (tob tt.1 ls))]) rfl rfl rfl (Nat.le_of_ble_eq_true rfl) (M_h.rcv hm) ?_
        refine m_headOf hm M_h hlen (by omega) K_I_33 ?_
        by_cases hn1 : ls.length < 1024
        · by_cases hs1 : tob tt.1 ls < 1024
          · rw [if_pos hn1, if_pos hs1]
            show WX _ _ _ 80 [(0, .ref m), (1, .int (nI ls.length)), (2, .int (nI (hpF ls.length))), (3, .int (nI (lc1 ls).2.1)), (4, .int (nI (lc1 ls).1)), (5, .int (nI (tob tt.1 ls)))] [.int 0] (n, s, h)
            have hch : chd ls.length = 3 := hb_ch hn1
            refine WX.s1 (L' := [(0, .ref m), (1, .int (nI ls.length)), (2, .int (nI (hpF ls.length))), (3, .int (nI (lc1 ls).2.1)), (4, .int (nI (lc1 ls).1)), (5, .int (nI (tob tt.1 ls))), (6, .int 0)]) rfl rfl ?_
            refine WX.s1 rfl rfl ?_
            refine WX.if_ rfl (fun c_84 => absurd c_84 (by decide)) (fun c_84 => ?_)
            clear c_84
            refine WX.s1 rfl rfl ?_
            refine WX.callC (vs := [.int 0]) rfl rfl rfl (Nat.le_of_ble_eq_true rfl) rfl ?_
            refine m_headB ?_
            rw [show hbI 0 = 3 by decide]
            show WX _ _ _ 92 [(0, .ref m), (1, .int (nI ls.length)), (2, .int (nI (hpF ls.length))), (3, .int (nI (lc1 ls).2.1)), (4, .int (nI (lc1 ls).1)), (5, .int (nI (tob tt.1 ls))), (6, .int 0)] [.int 3] (n, s, h)
            refine WX.s1 rfl rfl ?_
            refine WX.s1 (S' := [.int (3 + (nI (tob tt.1 ls)))]) rfl rfl ?_
            rw [show (3 + (nI (tob tt.1 ls))) = nI (3 + tob tt.1 ls) from nI_add 3 (tob tt.1 ls)]
            refine WX.s1 rfl rfl ?_
            refine WX.icmp rfl (fun c_96 => ?_) (fun c_96 => ?_)
            · skip
              have n_96 : ((lc1 ls).2.1) ≤ (3 + tob tt.1 ls) := (nI_leI (a := (lc1 ls).2.1) (b := 3 + tob tt.1 ls) (by omega) (by omega)).mp c_96
              refine WX.keep (y := 192) [0, 1, 2, 3, 4] (show ([0, 1, 2, 3, 4, 5, 6] : List Nat).Nodup by decide) rfl ?_
              have e4 : lcS (lc1 ls) 3 (tob tt.1 ls) ls.length = lc1 ls := by rcases lcS_cs (lc1 ls) 3 (tob tt.1 ls) ls.length with ⟨q, z⟩ | ⟨q, z⟩; exact absurd q (fun q => by have := q.2; rw [hch] at this; omega); exact z
              rw [e3, e4] at t111
              exact t111
            · skip
              have n_96 : (3 + tob tt.1 ls) < ((lc1 ls).2.1) := Nat.lt_of_not_le (fun zz_ => c_96 ((nI_leI (a := (lc1 ls).2.1) (b := 3 + tob tt.1 ls) (by omega) (by omega)).mpr zz_))
              refine WX.s1 rfl rfl ?_
              refine WX.callC (vs := [.int 0]) rfl rfl rfl (Nat.le_of_ble_eq_true rfl) rfl ?_
              refine m_headB ?_
              rw [show hbI 0 = 3 by decide]
              show WX _ _ _ 104 [(0, .ref m), (1, .int (nI ls.length)), (2, .int (nI (hpF ls.length))), (3, .int (nI (lc1 ls).2.1)), (4, .int (nI (lc1 ls).1)), (5, .int (nI (tob tt.1 ls))), (6, .int 0)] [.int 3] (n, s, h)
              refine WX.s1 rfl rfl ?_
              refine WX.s1 (S' := [.int (3 + (nI (tob tt.1 ls)))]) rfl rfl ?_
              rw [show (3 + (nI (tob tt.1 ls))) = nI (3 + tob tt.1 ls) from nI_add 3 (tob tt.1 ls)]
              refine WX.s1 (L' := [(0, .ref m), (1, .int (nI ls.length)), (2, .int (nI (hpF ls.length))), (3, .int (nI (3 + tob tt.1 ls))), (4, .int (nI (lc1 ls).1)), (5, .int (nI (tob tt.1 ls))), (6, .int 0)]) rfl rfl ?_
              refine WX.s1 rfl rfl ?_
              refine WX.s1 (L' := [(0, .ref m), (1, .int (nI ls.length)), (2, .int (nI (hpF ls.length))), (3, .int (nI (3 + tob tt.1 ls))), (4, .int 3), (5, .int (nI (tob tt.1 ls))), (6, .int 0)]) rfl rfl ?_
              refine WX.keep (y := 192) [0, 1, 2, 3, 4] (show ([0, 1, 2, 3, 4, 5, 6] : List Nat).Nodup by decide) rfl ?_
              have e4 : lcS (lc1 ls) 3 (tob tt.1 ls) ls.length = (3, chd ls.length + tob tt.1 ls, tob tt.1 ls) := by rcases lcS_cs (lc1 ls) 3 (tob tt.1 ls) ls.length with ⟨q, z⟩ | ⟨q, z⟩; exact z; exact absurd ⟨fun _ => hs1, by rw [hch]; exact n_96⟩ q
              rw [e3, e4, hch] at t111
              exact t111
          · rw [if_pos hn1, if_neg hs1]
            show WX _ _ _ 80 [(0, .ref m), (1, .int (nI ls.length)), (2, .int (nI (hpF ls.length))), (3, .int (nI (lc1 ls).2.1)), (4, .int (nI (lc1 ls).1)), (5, .int (nI (tob tt.1 ls)))] [.int (-1)] (n, s, h)
            refine WX.s1 (L' := [(0, .ref m), (1, .int (nI ls.length)), (2, .int (nI (hpF ls.length))), (3, .int (nI (lc1 ls).2.1)), (4, .int (nI (lc1 ls).1)), (5, .int (nI (tob tt.1 ls))), (6, .int (-1))]) rfl rfl ?_
            refine WX.s1 rfl rfl ?_
            refine WX.if_ rfl (fun c_84 => ?_) (fun c_84 => absurd (by decide) c_84)
            clear c_84
            refine WX.keep (y := 192) [0, 1, 2, 3, 4] (show ([0, 1, 2, 3, 4, 5, 6] : List Nat).Nodup by decide) rfl ?_
            have e4 : lcS (lc1 ls) 3 (tob tt.1 ls) ls.length = lc1 ls := by rcases lcS_cs (lc1 ls) 3 (tob tt.1 ls) ls.length with ⟨q, z⟩ | ⟨q, z⟩; exact absurd q (fun q => hs1 (q.1 hn1)); exact z
            rw [e3, e4] at t111
            exact t111
        · rw [if_neg hn1]
          show WX _ _ _ 80 [(0, .ref m), (1, .int (nI ls.length)), (2, .int (nI (hpF ls.length))), (3, .int (nI (lc1 ls).2.1)), (4, .int (nI (lc1 ls).1)), (5, .int (nI (tob tt.1 ls)))] [.int 2] (n, s, h)
          have hch : chd ls.length = 4 := hb_ch2 hn1
          refine WX.s1 (L' := [(0, .ref m), (1, .int (nI ls.length)), (2, .int (nI (hpF ls.length))), (3, .int (nI (lc1 ls).2.1)), (4, .int (nI (lc1 ls).1)), (5, .int (nI (tob tt.1 ls))), (6, .int 2)]) rfl rfl ?_
          refine WX.s1 rfl rfl ?_
          refine WX.if_ rfl (fun c_84 => absurd c_84 (by decide)) (fun c_84 => ?_)
          clear c_84
          refine WX.s1 rfl rfl ?_
          refine WX.callC (vs := [.int 2]) rfl rfl rfl (Nat.le_of_ble_eq_true rfl) rfl ?_
          refine m_headB ?_
          rw [show hbI 2 = 4 by decide]
          show WX _ _ _ 92 [(0, .ref m), (1, .int (nI ls.length)), (2, .int (nI (hpF ls.length))), (3, .int (nI (lc1 ls).2.1)), (4, .int (nI (lc1 ls).1)), (5, .int (nI (tob tt.1 ls))), (6, .int 2)] [.int 4] (n, s, h)
          refine WX.s1 rfl rfl ?_
          refine WX.s1 (S' := [.int (4 + (nI (tob tt.1 ls)))]) rfl rfl ?_
          rw [show (4 + (nI (tob tt.1 ls))) = nI (4 + tob tt.1 ls) from nI_add 4 (tob tt.1 ls)]
          refine WX.s1 rfl rfl ?_
          refine WX.icmp rfl (fun c_96 => ?_) (fun c_96 => ?_)
          · skip
            have n_96 : ((lc1 ls).2.1) ≤ (4 + tob tt.1 ls) := (nI_leI (a := (lc1 ls).2.1) (b := 4 + tob tt.1 ls) (by omega) (by omega)).mp c_96
            refine WX.keep (y := 192) [0, 1, 2, 3, 4] (show ([0, 1, 2, 3, 4, 5, 6] : List Nat).Nodup by decide) rfl ?_
            have e4 : lcS (lc1 ls) 3 (tob tt.1 ls) ls.length = lc1 ls := by rcases lcS_cs (lc1 ls) 3 (tob tt.1 ls) ls.length with ⟨q, z⟩ | ⟨q, z⟩; exact absurd q (fun q => by have := q.2; rw [hch] at this; omega); exact z
            rw [e3, e4] at t111
            exact t111
          · skip
            have n_96 : (4 + tob tt.1 ls) < ((lc1 ls).2.1) := Nat.lt_of_not_le (fun zz_ => c_96 ((nI_leI (a := (lc1 ls).2.1) (b := 4 + tob tt.1 ls) (by omega) (by omega)).mpr zz_))
            refine WX.s1 rfl rfl ?_
            refine WX.callC (vs := [.int 2]) rfl rfl rfl (Nat.le_of_ble_eq_true rfl) rfl ?_
            refine m_headB ?_
            rw [show hbI 2 = 4 by decide]
            show WX _ _ _ 104 [(0, .ref m), (1, .int (nI ls.length)), (2, .int (nI (hpF ls.length))), (3, .int (nI (lc1 ls).2.1)), (4, .int (nI (lc1 ls).1)), (5, .int (nI (tob tt.1 ls))), (6, .int 2)] [.int 4] (n, s, h)
            refine WX.s1 rfl rfl ?_
            refine WX.s1 (S' := [.int (4 + (nI (tob tt.1 ls)))]) rfl rfl ?_
            rw [show (4 + (nI (tob tt.1 ls))) = nI (4 + tob tt.1 ls) from nI_add 4 (tob tt.1 ls)]
            refine WX.s1 (L' := [(0, .ref m), (1, .int (nI ls.length)), (2, .int (nI (hpF ls.length))), (3, .int (nI (4 + tob tt.1 ls))), (4, .int (nI (lc1 ls).1)), (5, .int (nI (tob tt.1 ls))), (6, .int 2)]) rfl rfl ?_
            refine WX.s1 rfl rfl ?_
            refine WX.s1 (L' := [(0, .ref m), (1, .int (nI ls.length)), (2, .int (nI (hpF ls.length))), (3, .int (nI (4 + tob tt.1 ls))), (4, .int 3), (5, .int (nI (tob tt.1 ls))), (6, .int 2)]) rfl rfl ?_
            refine WX.keep (y := 192) [0, 1, 2, 3, 4] (show ([0, 1, 2, 3, 4, 5, 6] : List Nat).Nodup by decide) rfl ?_
            have e4 : lcS (lc1 ls) 3 (tob tt.1 ls) ls.length = (3, chd ls.length + tob tt.1 ls, tob tt.1 ls) := by rcases lcS_cs (lc1 ls) 3 (tob tt.1 ls) ls.length with ⟨q, z⟩ | ⟨q, z⟩; exact z; exact absurd ⟨fun z => absurd z hn1, by rw [hch]; exact n_96⟩ q
            rw [e3, e4, hch] at t111
            exact t111
      · have e3 : lc3 (some tt) ls (lc1 ls) = lc1 ls := if_neg hall
        show WX _ _ _ 60 [(0, .ref m), (1, .int (nI ls.length)), (2, .int (nI (hpF ls.length))), (3, .int (nI (lc1 ls).2.1)), (4, .int (nI (lc1 ls).1))] [.int 0] (n, s, h)
        refine WX.if_ rfl (fun c_60 => ?_) (fun c_60 => absurd (by decide) c_60)
        clear c_60
        rw [e3] at t111
        exact t111
  have t35 : WX (lk tX12_sayLiterals) (mM (d + 4)) Ψ 35 [(0, .ref m), (1, .int (nI ls.length)), (2, .int (nI (hpF ls.length))), (3, .int (nI (hpF ls.length + ls.length))), (4, .int 0)] [] (n, s, h) := by
    have hhp : hpF ls.length ≤ 3 := by unfold hpF; split <;> (try split) <;> omega
    refine WX.s1 rfl rfl ?_
    refine WX.callC (vs := [.ref m]) rfl rfl rfl (Nat.le_of_ble_eq_true rfl) (M_h.rcv hm) ?_
    refine m_allAlk hm M_h hL hls K_I_33 (fun hal => ?_) (fun hal => ?_)
    · show WX _ _ _ 39 [(0, .ref m), (1, .int (nI ls.length)), (2, .int (nI (hpF ls.length))), (3, .int (nI (hpF ls.length + ls.length))), (4, .int 0)] [.int 1] (n, s, h)
      refine WX.if_ rfl (fun c_39 => absurd c_39 (by decide)) (fun c_39 => ?_)
      clear c_39
      refine WX.s1 rfl rfl ?_
      refine WX.s1 rfl rfl ?_
      refine WX.s1 (S' := [.int ((nI (hpF ls.length)) + 1)]) rfl rfl ?_
      rw [show ((nI (hpF ls.length)) + 1) = nI (hpF ls.length + 1) from nI_add (hpF ls.length) 1]
      refine WX.s1 rfl rfl ?_
      refine WX.icmp rfl (fun c_46 => ?_) (fun c_46 => ?_)
      · skip
        have n_46 : (hpF ls.length + ls.length) ≤ (hpF ls.length + 1) := (nI_leI (a := hpF ls.length + ls.length) (b := hpF ls.length + 1) (by omega) (by omega)).mp c_46
        rw [show lc1 ls = (0, hpF ls.length + ls.length, 0) from if_neg (fun z => by have := z.2; omega)] at t56
        exact t56
      · skip
        have n_46 : (hpF ls.length + 1) < (hpF ls.length + ls.length) := Nat.lt_of_not_le (fun zz_ => c_46 ((nI_leI (a := hpF ls.length + ls.length) (b := hpF ls.length + 1) (by omega) (by omega)).mpr zz_))
        refine WX.s1 rfl rfl ?_
        refine WX.s1 rfl rfl ?_
        refine WX.s1 (S' := [.int ((nI (hpF ls.length)) + 1)]) rfl rfl ?_
        rw [show ((nI (hpF ls.length)) + 1) = nI (hpF ls.length + 1) from nI_add (hpF ls.length) 1]
        refine WX.s1 (L' := [(0, .ref m), (1, .int (nI ls.length)), (2, .int (nI (hpF ls.length))), (3, .int (nI (hpF ls.length + 1))), (4, .int 0)]) rfl rfl ?_
        refine WX.s1 rfl rfl ?_
        refine WX.s1 (L' := [(0, .ref m), (1, .int (nI ls.length)), (2, .int (nI (hpF ls.length))), (3, .int (nI (hpF ls.length + 1))), (4, .int 1)]) rfl rfl ?_
        rw [show lc1 ls = (1, hpF ls.length + 1, 0) from if_pos ⟨hal, n_46⟩] at t56
        exact t56
    · show WX _ _ _ 39 [(0, .ref m), (1, .int (nI ls.length)), (2, .int (nI (hpF ls.length))), (3, .int (nI (hpF ls.length + ls.length))), (4, .int 0)] [.int 0] (n, s, h)
      refine WX.if_ rfl (fun c_39 => ?_) (fun c_39 => absurd (by decide) c_39)
      clear c_39
      rw [show lc1 ls = (0, hpF ls.length + ls.length, 0) from if_neg (fun z => hal z.1)] at t56
      exact t56
  refine WX.s1 rfl rfl ?_
  refine WX.s1 rfl rfl ?_
  refine WX.icmp rfl (fun c_8 => ?_) (fun c_8 => ?_)
  · skip
    have n_8 : 32 ≤ ls.length := (nI_leI (a := 32) (b := ls.length) (by omega) (by omega)).mp c_8
    refine WX.s1 rfl rfl ?_
    refine WX.s1 rfl rfl ?_
    refine WX.icmp rfl (fun c_19 => ?_) (fun c_19 => ?_)
    · skip
      have n_19 : 4096 ≤ ls.length := (nI_leI (a := 4096) (b := ls.length) (by omega) (by omega)).mp c_19
      refine WX.s1 rfl rfl ?_
      refine WX.s1 (L' := [(0, .ref m), (1, .int (nI ls.length)), (2, .int 3)]) rfl rfl ?_
      rw [show hpF ls.length = 3 by unfold hpF; rw [if_neg (by omega), if_neg (by omega)]] at t35
      refine WX.s1 rfl rfl ?_
      refine WX.s1 rfl rfl ?_
      refine WX.s1 (S' := [.int ((nI 3) + (nI ls.length))]) rfl rfl ?_
      rw [show ((nI 3) + (nI ls.length)) = nI (3 + ls.length) from nI_add 3 ls.length]
      refine WX.s1 (L' := [(0, .ref m), (1, .int (nI ls.length)), (2, .int (nI 3)), (3, .int (nI (3 + ls.length)))]) rfl rfl ?_
      refine WX.s1 rfl rfl ?_
      refine WX.s1 (L' := [(0, .ref m), (1, .int (nI ls.length)), (2, .int (nI 3)), (3, .int (nI (3 + ls.length))), (4, .int 0)]) rfl rfl ?_
      exact t35
    · skip
      have n_19 : ls.length < 4096 := Nat.lt_of_not_le (fun zz_ => c_19 ((nI_leI (a := 4096) (b := ls.length) (by omega) (by omega)).mpr zz_))
      refine WX.s1 rfl rfl ?_
      refine WX.s1 rfl rfl ?_
      refine WX.s1 (L' := [(0, .ref m), (1, .int (nI ls.length)), (2, .int 2)]) rfl rfl ?_
      rw [show hpF ls.length = 2 by unfold hpF; rw [if_neg (by omega), if_pos n_19]] at t35
      refine WX.s1 rfl rfl ?_
      refine WX.s1 rfl rfl ?_
      refine WX.s1 (S' := [.int ((nI 2) + (nI ls.length))]) rfl rfl ?_
      rw [show ((nI 2) + (nI ls.length)) = nI (2 + ls.length) from nI_add 2 ls.length]
      refine WX.s1 (L' := [(0, .ref m), (1, .int (nI ls.length)), (2, .int (nI 2)), (3, .int (nI (2 + ls.length)))]) rfl rfl ?_
      refine WX.s1 rfl rfl ?_
      refine WX.s1 (L' := [(0, .ref m), (1, .int (nI ls.length)), (2, .int (nI 2)), (3, .int (nI (2 + ls.length))), (4, .int 0)]) rfl rfl ?_
      exact t35
  · skip
    have n_8 : ls.length < 32 := Nat.lt_of_not_le (fun zz_ => c_8 ((nI_leI (a := 32) (b := ls.length) (by omega) (by omega)).mpr zz_))
    refine WX.s1 rfl rfl ?_
    refine WX.s1 rfl rfl ?_
    refine WX.s1 (L' := [(0, .ref m), (1, .int (nI ls.length)), (2, .int 1)]) rfl rfl ?_
    rw [show hpF ls.length = 1 by unfold hpF; rw [if_pos n_8]] at t35
    refine WX.s1 rfl rfl ?_
    refine WX.s1 rfl rfl ?_
    refine WX.s1 (S' := [.int ((nI 1) + (nI ls.length))]) rfl rfl ?_
    rw [show ((nI 1) + (nI ls.length)) = nI (1 + ls.length) from nI_add 1 ls.length]
    refine WX.s1 (L' := [(0, .ref m), (1, .int (nI ls.length)), (2, .int (nI 1)), (3, .int (nI (1 + ls.length)))]) rfl rfl ?_
    refine WX.s1 rfl rfl ?_
    refine WX.s1 (L' := [(0, .ref m), (1, .int (nI ls.length)), (2, .int (nI 1)), (3, .int (nI (1 + ls.length))), (4, .int 0)]) rfl rfl ?_
    exact t35
