/-! the reference: go -/
def FaS (A B : Nat → Nat → Int32) (S : Nat → Prop) : Prop := ∀ b, ¬ S b → B b = A b
theorem FaS.rf {A : Nat → Nat → Int32} {S : Nat → Prop} : FaS A A S := fun _ _ => rfl
theorem FaS.ztr {A B D : Nat → Nat → Int32} {S : Nat → Prop} (a : FaS A B S) (b : FaS B D S) : FaS A D S := fun x hx => (b x hx).trans (a x hx)
theorem FaS.ast {A B D : Nat → Nat → Int32} {S : Nat → Prop} {c i : Nat} {v : Int32} (a : FaS A B S) (e : D = upA B c i v) (hc : S c) : FaS A D S := fun x hx => by rw [e, upA_ne (fun q => hx (by rw [q]; exact hc))]; exact a x hx
theorem Fa.toS {A B : Nat → Nat → Int32} {c : Nat} {S : Nat → Prop} (a : Fa A B c) (hc : S c) : FaS A B S := fun x hx => a x (fun q => hx (by rw [q]; exact hc))
theorem FaS.mono {A B : Nat → Nat → Int32} {S T : Nat → Prop} (a : FaS A B S) (h : ∀ x, S x → T x) : FaS A B T := fun x hx => a x (fun q => hx (h x q))
abbrev Sq : Type := Nat × Nat × Nat
def SeqM (I : Nat → Int32) (A : Nat → Nat → Int32) (qs : List Sq) : Prop := I 31 = nI qs.length ∧ ∀ i, i < qs.length → A 17 i = nI (qs.getD i (0, 0, 0)).1 ∧ A 18 i = nI (qs.getD i (0, 0, 0)).2.1 ∧ A 19 i = nI (qs.getD i (0, 0, 0)).2.2
def LitM (I : Nat → Int32) (A : Nat → Nat → Int32) (ls : List Nat) : Prop := I 33 = nI ls.length ∧ ∀ i, i < ls.length → A 20 i = nI (ls.getD i 0)
theorem getD_appq {l : List Sq} {x : Sq} {i : Nat} : (l ++ [x]).getD i (0, 0, 0) = if i = l.length then x else l.getD i (0, 0, 0) := by
  rw [List.getD_eq_getElem?_getD, List.getD_eq_getElem?_getD]
  by_cases h : i = l.length
  · subst h
    rw [if_pos rfl, List.getElem?_append_right (Nat.le_refl _), Nat.sub_self]
    rfl
  · rw [if_neg h]
    rcases Nat.lt_or_ge i l.length with z | z
    · rw [List.getElem?_append_left z]
    · rw [List.getElem?_append_right z, List.getElem?_eq_none (by rw [List.length_singleton]; omega), List.getElem?_eq_none z]
set_option maxRecDepth 20000 in
theorem m_go {d n s : Nat} {h : Nat → aE} {m : Nat} {I : Nat → Int32} {AR : Nat → Nat → Int32} {LN : Nat → Int64} {D : Nat → Nat} {e f way least win : Nat} (hm : m + 43 < n) (M_h : MAt h m I AR LN) (hD : DataIs AR D e) (he : e ≤ 16000) (hw : way ≤ 3) (hl3 : 3 ≤ least) (hl8 : least ≤ 8) (hwin : win < 2 ^ 30) (hf : f ≤ e) (hfe : e - f ≤ 8000) (K_I_25 : I 25 = (nI e)) (K_I_27 : I 27 = (nI win)) (K_I_5 : I 5 = (nI least)) (K_I_4 : I 4 = (nI way)) {Ψ : Option Value → aH → Prop} (kk : ∀ h' I' A' k p si ls qs, goN D way least win e f k = (p, si, ls, qs) → e ≤ p → Fr h h' (inM m) → MAt h' m I' A' LN → Fi I I' (fun f => f = 26 ∨ f = 31 ∨ f = 33) → FaS AR A' (fun b => b = 17 ∨ b = 18 ∨ b = 19 ∨ b = 20) → LitM I' A' ls → SeqM I' A' qs → Ψ none (n, s, h')) : WO (mM (d + 4)) 157 [.ref m, .int (nI f)] (n, s, h) Ψ := by
  refine WO.of (Nat.le_of_ble_eq_true rfl) ?_
  have FR_h : Fr h h (inM m) := Fr.rf
  have FI_I : Fi I I (fun f => f = 26 ∨ f = 31 ∨ f = 33) := Fi.rf
  show WX (lk tX12_go) (mM (d + 3)) Ψ 0 [(0, .ref m), (1, .int (nI f))] [] (n, s, h)
  refine WX.s1 rfl rfl ?_
  refine WX.s1 rfl rfl ?_
  refine WX.mput rfl hm M_h (rfl) (by decide) (fun _ => rfl) (fun h2n1 I2n1 e_I2n1 M_h2n1 frh2n1 => ?_)
  have FR_h2n1 := FR_h.ztr frh2n1
  have FI_I2n1 : Fi I I2n1 (fun f => f = 26 ∨ f = 31 ∨ f = 33) := FI_I.zup e_I2n1 (by first | exact rfl | decide | omega)
  have K_I2n1_25 : I2n1 25 = (nI e) := by rw [e_I2n1]; exact (pk_un (by decide)).trans K_I_25
  have K_I2n1_27 : I2n1 27 = (nI win) := by rw [e_I2n1]; exact (pk_un (by decide)).trans K_I_27
  have K_I2n1_5 : I2n1 5 = (nI least) := by rw [e_I2n1]; exact (pk_un (by decide)).trans K_I_5
  have K_I2n1_4 : I2n1 4 = (nI way) := by rw [e_I2n1]; exact (pk_un (by decide)).trans K_I_4
  have K_I2n1_31 : I2n1 31 = (nI 0) := by rw [e_I2n1]; exact pk_us.trans (rfl)
  clear M_h FR_h FI_I e_I2n1 frh2n1 K_I_25 K_I_27 K_I_5 K_I_4
  refine WX.s1 rfl rfl ?_
  refine WX.s1 rfl rfl ?_
  refine WX.mput rfl hm M_h2n1 (rfl) (by decide) (fun _ => rfl) (fun h7n2 I7n2 e_I7n2 M_h7n2 frh7n2 => ?_)
  have FR_h7n2 := FR_h2n1.ztr frh7n2
  have FI_I7n2 : Fi I I7n2 (fun f => f = 26 ∨ f = 31 ∨ f = 33) := FI_I2n1.zup e_I7n2 (by first | exact rfl | decide | omega)
  have K_I7n2_25 : I7n2 25 = (nI e) := by rw [e_I7n2]; exact (pk_un (by decide)).trans K_I2n1_25
  have K_I7n2_27 : I7n2 27 = (nI win) := by rw [e_I7n2]; exact (pk_un (by decide)).trans K_I2n1_27
  have K_I7n2_5 : I7n2 5 = (nI least) := by rw [e_I7n2]; exact (pk_un (by decide)).trans K_I2n1_5
  have K_I7n2_4 : I7n2 4 = (nI way) := by rw [e_I7n2]; exact (pk_un (by decide)).trans K_I2n1_4
  have K_I7n2_31 : I7n2 31 = (nI 0) := by rw [e_I7n2]; exact (pk_un (by decide)).trans K_I2n1_31
  have K_I7n2_33 : I7n2 33 = (nI 0) := by rw [e_I7n2]; exact pk_us.trans (rfl)
  clear M_h2n1 FR_h2n1 FI_I2n1 e_I7n2 frh7n2 K_I2n1_25 K_I2n1_27 K_I2n1_5 K_I2n1_4 K_I2n1_31
  refine WX.s1 rfl rfl ?_
  refine WX.s1 (L' := [(0, .ref m), (1, .int (nI f)), (2, .int 0)]) rfl rfl ?_
  refine WX.s1 rfl rfl ?_
  refine WX.s1 (L' := [(0, .ref m), (1, .int (nI f)), (2, .int 0), (3, .int (nI f))]) rfl rfl ?_
  have lp : ∀ (t k p si : Nat) (ls : List Nat) (qs : List Sq) (hL : Nat → aE) (IL : Nat → Int32) (AL : Nat → Nat → Int32), e - p ≤ t → goN D way least win e f k = (p, si, ls, qs) → Fr h hL (inM m) → MAt hL m IL AL LN → Fi I IL (fun f => f = 26 ∨ f = 31 ∨ f = 33) → FaS AR AL (fun b => b = 17 ∨ b = 18 ∨ b = 19 ∨ b = 20) → LitM IL AL ls → SeqM IL AL qs → WX (lk tX12_go) (mM (d + 3)) Ψ 14 [(0, .ref m), (1, .int (nI f)), (2, .int (nI si)), (3, .int (nI p))] [] (n, s, hL) := by
    have K25 : I 25 = _ := (FI_I7n2 25 (by decide)).symm.trans K_I7n2_25
    have K27 : I 27 = _ := (FI_I7n2 27 (by decide)).symm.trans K_I7n2_27
    have K5 : I 5 = _ := (FI_I7n2 5 (by decide)).symm.trans K_I7n2_5
    have K4 : I 4 = _ := (FI_I7n2 4 (by decide)).symm.trans K_I7n2_4
    clear M_h7n2 FR_h7n2 FI_I7n2 K_I7n2_25 K_I7n2_27 K_I7n2_5 K_I7n2_4 K_I7n2_31 K_I7n2_33
    intro t
    induction t with
    | zero =>
      intro k p si ls qs hL IL AL ht hG FR_hL M_hL FI_IL FA_AL hLi hSq
      have K_IL_25 : IL 25 = (nI e) := (FI_IL 25 (by decide)).trans K25
      have K_IL_27 : IL 27 = (nI win) := (FI_IL 27 (by decide)).trans K27
      have K_IL_5 : IL 5 = (nI least) := (FI_IL 5 (by decide)).trans K5
      have K_IL_4 : IL 4 = (nI way) := (FI_IL 4 (by decide)).trans K4
      have K_IL_33 : IL 33 = nI ls.length := hLi.1
      have K_IL_31 : IL 31 = nI qs.length := hSq.1
      have hok := goN_ok (D := D) (way := way) (win := win) (e := e) (f := f) hl3 hf k
      rw [hG] at hok
      obtain ⟨o1, o2, o3, o4⟩ : f ≤ p ∧ p ≤ e ∧ f + si ≤ p ∧ f + ls.length + 3 * qs.length ≤ p := hok
      refine WX.s1 rfl rfl ?_
      refine WX.s1 rfl rfl ?_
      refine WX.mgetK (x := (nI e)) rfl hm M_hL rfl K_IL_25 ?_
      refine WX.icmp rfl (fun c_19 => ?_) (fun c_19 => absurd ((nI_leI (a := e) (b := p) (by omega) (by omega)).mpr (by omega)) c_19)
      clear c_19
      exact WX.ret0 rfl (kk hL IL AL k p si ls qs hG (by omega) FR_hL M_hL FI_IL FA_AL hLi hSq)
    | succ t ih =>
      intro k p si ls qs hL IL AL ht hG FR_hL M_hL FI_IL FA_AL hLi hSq
      have K_IL_25 : IL 25 = (nI e) := (FI_IL 25 (by decide)).trans K25
      have K_IL_27 : IL 27 = (nI win) := (FI_IL 27 (by decide)).trans K27
      have K_IL_5 : IL 5 = (nI least) := (FI_IL 5 (by decide)).trans K5
      have K_IL_4 : IL 4 = (nI way) := (FI_IL 4 (by decide)).trans K4
      have K_IL_33 : IL 33 = nI ls.length := hLi.1
      have K_IL_31 : IL 31 = nI qs.length := hSq.1
      have hok := goN_ok (D := D) (way := way) (win := win) (e := e) (f := f) hl3 hf k
      rw [hG] at hok
      obtain ⟨o1, o2, o3, o4⟩ : f ≤ p ∧ p ≤ e ∧ f + si ≤ p ∧ f + ls.length + 3 * qs.length ≤ p := hok
      have htl := tk_le D way least win e p
      refine WX.s1 rfl rfl ?_
      refine WX.s1 rfl rfl ?_
      refine WX.mgetK (x := (nI e)) rfl hm M_hL rfl K_IL_25 ?_
      refine WX.icmp rfl (fun c_19 => ?_) (fun c_19 => ?_)
      · skip
        have n_19 : e ≤ p := (nI_leI (a := e) (b := p) (by omega) (by omega)).mp c_19
        exact WX.ret0 rfl (kk hL IL AL k p si ls qs hG (by omega) FR_hL M_hL FI_IL FA_AL hLi hSq)
      · skip
        have n_19 : p < e := Nat.lt_of_not_le (fun zz_ => c_19 ((nI_leI (a := e) (b := p) (by omega) (by omega)).mpr zz_))
        refine WX.s1 rfl rfl ?_
        refine WX.s1 rfl rfl ?_
        refine WX.callC (vs := [.ref m, .int (nI p)]) rfl rfl rfl (Nat.le_of_ble_eq_true rfl) (M_hL.rcv hm) ?_
        refine m_taken hm M_hL (fun i hi => by rw [FA_AL 16 (by decide)]; exact hD i hi) he (by omega) hw hl3 hl8 hwin K_IL_25 K_IL_27 K_IL_5 K_IL_4 (fun h2 I2 fr2 M_h2 fi2 h26 => ?_)
        have FR_h2 := FR_hL.ztr fr2
        have FI_I2 : Fi I I2 (fun f => f = 26 ∨ f = 31 ∨ f = 33) := FI_IL.zsub fi2 (fun j hj => Or.inl hj)
        have K_I2_25 : I2 25 = (nI e) := (fi2 25 (by decide)).trans K_IL_25
        have K_I2_27 : I2 27 = (nI win) := (fi2 27 (by decide)).trans K_IL_27
        have K_I2_5 : I2 5 = (nI least) := (fi2 5 (by decide)).trans K_IL_5
        have K_I2_4 : I2 4 = (nI way) := (fi2 4 (by decide)).trans K_IL_4
        have K_I2_33 : I2 33 = (nI ls.length) := (fi2 33 (by decide)).trans K_IL_33
        have K_I2_31 : I2 31 = (nI qs.length) := (fi2 31 (by decide)).trans K_IL_31
        show WX _ _ _ 27 [(0, .ref m), (1, .int (nI f)), (2, .int (nI si)), (3, .int (nI p))] [.int (nI (tk D way least win e p))] (n, s, h2)
        refine WX.s1 (L' := [(0, .ref m), (1, .int (nI f)), (2, .int (nI si)), (3, .int (nI p)), (4, .int (nI (tk D way least win e p)))]) rfl rfl ?_
        refine WX.s1 rfl rfl ?_
        refine WX.if_ rfl (fun c_31 => ?_) (fun c_31 => ?_)
        · skip
          have n_31 : ¬ (tk D way least win e p) = 0 := fun zz_ => c_31 ((nI_eq (a := tk D way least win e p) (b := 0) (by omega) (by omega)).mpr zz_)
          obtain ⟨hls, hlp⟩ := tk_ls (by omega) n_31
          have K_I2_26 := h26 n_31
          refine WX.s1 rfl rfl ?_
          refine WX.mget rfl hm M_h2 rfl ?_
          refine WX.s1 rfl rfl ?_
          refine WX.mgetK (x := (nI qs.length)) rfl hm M_h2 rfl K_I2_31 ?_
          refine WX.s1 rfl rfl ?_
          refine WX.mast (c := 17) rfl hm M_h2 (by decide) (by decide) (by decide) (by decide) (vp_in_nI (N := 8001) (by omega) (by decide)) (fun h77n3 A77n3 e_A77n3 M_h77n3 frh77n3 => ?_)
          try dsimp only at e_A77n3
          have FR_h77n3 := FR_h2.ztr frh77n3
          clear M_h2 FR_h2 frh77n3
          refine WX.s1 rfl rfl ?_
          refine WX.mget rfl hm M_h77n3 rfl ?_
          refine WX.s1 rfl rfl ?_
          refine WX.mgetK (x := (nI qs.length)) rfl hm M_h77n3 rfl K_I2_31 ?_
          refine WX.s1 rfl rfl ?_
          refine WX.mast (c := 18) rfl hm M_h77n3 (by decide) (by decide) (by decide) (by decide) (vp_in_nI (N := 8001) (by omega) (by decide)) (fun h88n4 A88n4 e_A88n4 M_h88n4 frh88n4 => ?_)
          try dsimp only at e_A88n4
          have FR_h88n4 := FR_h77n3.ztr frh88n4
          clear M_h77n3 FR_h77n3 frh88n4
          refine WX.s1 rfl rfl ?_
          refine WX.mget rfl hm M_h88n4 rfl ?_
          refine WX.s1 rfl rfl ?_
          refine WX.mgetK (x := (nI qs.length)) rfl hm M_h88n4 rfl K_I2_31 ?_
          refine WX.s1 rfl rfl ?_
          refine WX.s1 rfl rfl ?_
          refine WX.mgetK (x := (nI (mAt D (wy way) least win e p).2)) rfl hm M_h88n4 rfl K_I2_26 ?_
          refine WX.s1 (S' := [.int ((nI p) - (nI (mAt D (wy way) least win e p).2)), .int (nI qs.length), .ref (m + 19)]) rfl rfl ?_
          rw [nI_subN (by omega)]
          refine WX.mast (c := 19) rfl hm M_h88n4 (by decide) (by decide) (by decide) (by decide) (vp_in_nI (N := 8001) (by omega) (by decide)) (fun h103n5 A103n5 e_A103n5 M_h103n5 frh103n5 => ?_)
          try dsimp only at e_A103n5
          have FR_h103n5 := FR_h88n4.ztr frh103n5
          clear M_h88n4 FR_h88n4 frh103n5
          refine WX.s1 rfl rfl ?_
          refine WX.s1 rfl rfl ?_
          refine WX.mgetK (x := (nI qs.length)) rfl hm M_h103n5 rfl K_I2_31 ?_
          refine WX.s1 rfl rfl ?_
          refine WX.s1 (S' := [.int ((nI qs.length) + 1), .ref m]) rfl rfl ?_
          rw [show ((nI qs.length) + 1) = nI (qs.length + 1) from nI_add qs.length 1]
          refine WX.mput rfl hm M_h103n5 (rfl) (by decide) (fun _ => rfl) (fun h111n6 I111n6 e_I111n6 M_h111n6 frh111n6 => ?_)
          have FR_h111n6 := FR_h103n5.ztr frh111n6
          have FI_I111n6 : Fi I I111n6 (fun f => f = 26 ∨ f = 31 ∨ f = 33) := FI_I2.zup e_I111n6 (by first | exact rfl | decide | omega)
          have K_I111n6_25 : I111n6 25 = (nI e) := by rw [e_I111n6]; exact (pk_un (by decide)).trans K_I2_25
          have K_I111n6_27 : I111n6 27 = (nI win) := by rw [e_I111n6]; exact (pk_un (by decide)).trans K_I2_27
          have K_I111n6_5 : I111n6 5 = (nI least) := by rw [e_I111n6]; exact (pk_un (by decide)).trans K_I2_5
          have K_I111n6_4 : I111n6 4 = (nI way) := by rw [e_I111n6]; exact (pk_un (by decide)).trans K_I2_4
          have K_I111n6_33 : I111n6 33 = (nI ls.length) := by rw [e_I111n6]; exact (pk_un (by decide)).trans K_I2_33
          have K_I111n6_26 : I111n6 26 = (nI (mAt D (wy way) least win e p).2) := by rw [e_I111n6]; exact (pk_un (by decide)).trans K_I2_26
          have K_I111n6_31 : I111n6 31 = (nI (qs.length + 1)) := by rw [e_I111n6]; exact pk_us
          clear M_h103n5 FR_h103n5 FI_I2 e_I111n6 frh111n6 K_I2_25 K_I2_27 K_I2_5 K_I2_4 K_I2_33 K_I2_31 K_I2_26
          refine WX.s1 rfl rfl ?_
          refine WX.s1 (L' := [(0, .ref m), (1, .int (nI f)), (2, .int 0), (3, .int (nI p)), (4, .int (nI (tk D way least win e p)))]) rfl rfl ?_
          refine WX.s1 rfl rfl ?_
          refine WX.s1 rfl rfl ?_
          refine WX.s1 (S' := [.int ((nI p) + (nI (tk D way least win e p)))]) rfl rfl ?_
          rw [show ((nI p) + (nI (tk D way least win e p))) = nI (p + tk D way least win e p) from nI_add p (tk D way least win e p)]
          refine WX.s1 (L' := [(0, .ref m), (1, .int (nI f)), (2, .int 0), (3, .int (nI (p + tk D way least win e p))), (4, .int (nI (tk D way least win e p)))]) rfl rfl ?_
          refine WX.s1 rfl rfl ?_
          refine WX.keep (y := 157) [0, 1, 2, 3] (show ([0, 1, 2, 3, 4] : List Nat).Nodup by decide) rfl ?_
          rw [nI_clamp (by omega)] at e_A77n3
          rw [nI_clamp (by omega)] at e_A88n4
          rw [nI_clamp (by omega)] at e_A103n5
          have hG2 : goN D way least win e f (k + 1) = (p + (tk D way least win e p), 0, ls, qs ++ [(si, (tk D way least win e p), p - (mAt D (wy way) least win e p).2)]) := by
            show gStep D way least win e (goN D way least win e f k) = _
            rw [hG]
            unfold gStep
            rw [if_pos (show p < e by omega), if_neg n_31]
          refine ih (k + 1) (p + (tk D way least win e p)) 0 ls (qs ++ [(si, (tk D way least win e p), p - (mAt D (wy way) least win e p).2)]) h111n6 I111n6 A103n5 (by omega) hG2 FR_h111n6 M_h111n6 FI_I111n6 (((FA_AL.ast e_A77n3 (by decide)).ast e_A88n4 (by decide)).ast e_A103n5 (by decide)) ⟨K_I111n6_33, fun i hi => ?_⟩ ⟨by rw [List.length_append]; exact K_I111n6_31, fun i hi => ?_⟩
          · rw [e_A103n5, upA_ne (by decide), e_A88n4, upA_ne (by decide), e_A77n3, upA_ne (by decide)]
            exact hLi.2 i hi
          · rw [List.length_append, List.length_singleton] at hi
            rw [getD_appq]
            by_cases q : i = qs.length
            · subst q; rw [if_pos rfl]; simp [e_A103n5, e_A88n4, e_A77n3, upA, upd]
            · rw [if_neg q]; have := hSq.2 i (by omega); simp [e_A103n5, e_A88n4, e_A77n3, upA, upd, q]; exact this
        · skip
          have n_31 : (tk D way least win e p) = 0 := (nI_eq (a := tk D way least win e p) (b := 0) (by omega) (by omega)).mp (Classical.not_not.mp c_31)
          refine WX.s1 rfl rfl ?_
          refine WX.mget rfl hm M_h2 rfl ?_
          refine WX.s1 rfl rfl ?_
          refine WX.mgetK (x := (nI ls.length)) rfl hm M_h2 rfl K_I2_33 ?_
          refine WX.s1 rfl rfl ?_
          refine WX.mget rfl hm M_h2 rfl ?_
          refine WX.s1 rfl rfl ?_
          refine WX.mald (c := 16) rfl hm M_h2 (by decide) (by decide) (by decide) (by decide) (vp_in_nI (N := 16000) (by omega) (by decide)) ?_
          rw [nI_clamp (by omega), FA_AL 16 (by decide), (hD p (by omega)).2]
          refine WX.mast (c := 20) rfl hm M_h2 (by decide) (by decide) (by decide) (by decide) (vp_in_nI (N := 8001) (by omega) (by decide)) (fun h48n7 A48n7 e_A48n7 M_h48n7 frh48n7 => ?_)
          try dsimp only at e_A48n7
          have FR_h48n7 := FR_h2.ztr frh48n7
          clear M_h2 FR_h2 frh48n7
          refine WX.s1 rfl rfl ?_
          refine WX.s1 rfl rfl ?_
          refine WX.mgetK (x := (nI ls.length)) rfl hm M_h48n7 rfl K_I2_33 ?_
          refine WX.s1 rfl rfl ?_
          refine WX.s1 (S' := [.int ((nI ls.length) + 1), .ref m]) rfl rfl ?_
          rw [show ((nI ls.length) + 1) = nI (ls.length + 1) from nI_add ls.length 1]
          refine WX.mput rfl hm M_h48n7 (rfl) (by decide) (fun _ => rfl) (fun h56n8 I56n8 e_I56n8 M_h56n8 frh56n8 => ?_)
          have FR_h56n8 := FR_h48n7.ztr frh56n8
          have FI_I56n8 : Fi I I56n8 (fun f => f = 26 ∨ f = 31 ∨ f = 33) := FI_I2.zup e_I56n8 (by first | exact rfl | decide | omega)
          have K_I56n8_25 : I56n8 25 = (nI e) := by rw [e_I56n8]; exact (pk_un (by decide)).trans K_I2_25
          have K_I56n8_27 : I56n8 27 = (nI win) := by rw [e_I56n8]; exact (pk_un (by decide)).trans K_I2_27
          have K_I56n8_5 : I56n8 5 = (nI least) := by rw [e_I56n8]; exact (pk_un (by decide)).trans K_I2_5
          have K_I56n8_4 : I56n8 4 = (nI way) := by rw [e_I56n8]; exact (pk_un (by decide)).trans K_I2_4
          have K_I56n8_31 : I56n8 31 = (nI qs.length) := by rw [e_I56n8]; exact (pk_un (by decide)).trans K_I2_31
          have K_I56n8_33 : I56n8 33 = (nI (ls.length + 1)) := by rw [e_I56n8]; exact pk_us
          clear M_h48n7 FR_h48n7 FI_I2 e_I56n8 frh56n8 K_I2_25 K_I2_27 K_I2_5 K_I2_4 K_I2_33 K_I2_31
          refine WX.s1 (L' := [(0, .ref m), (1, .int (nI f)), (2, .int ((nI si) + 1)), (3, .int (nI p)), (4, .int (nI (tk D way least win e p)))]) rfl rfl ?_
          rw [show ((nI si) + 1) = nI (si + 1) from nI_add si 1]
          refine WX.s1 (L' := [(0, .ref m), (1, .int (nI f)), (2, .int (nI (si + 1))), (3, .int ((nI p) + 1)), (4, .int (nI (tk D way least win e p)))]) rfl rfl ?_
          rw [show ((nI p) + 1) = nI (p + 1) from nI_add p 1]
          refine WX.s1 rfl rfl ?_
          refine WX.keep (y := 157) [0, 1, 2, 3] (show ([0, 1, 2, 3, 4] : List Nat).Nodup by decide) rfl ?_
          rw [nI_clamp (by omega)] at e_A48n7
          have hG2 : goN D way least win e f (k + 1) = (p + 1, si + 1, ls ++ [D p], qs) := by
            show gStep D way least win e (goN D way least win e f k) = _
            rw [hG]
            unfold gStep
            rw [if_pos (show p < e by omega), if_pos n_31]
          refine ih (k + 1) (p + 1) (si + 1) (ls ++ [D p]) qs h56n8 I56n8 A48n7 (by omega) hG2 FR_h56n8 M_h56n8 FI_I56n8 (FA_AL.ast e_A48n7 (by decide)) ⟨by rw [List.length_append]; exact K_I56n8_33, fun i hi => ?_⟩ ⟨K_I56n8_31, fun i hi => ?_⟩
          · rw [List.length_append, List.length_singleton] at hi
            rw [getD_app, e_A48n7, upA_same]
            by_cases q : i = ls.length
            · rw [if_pos q, q, pk_us]
            · rw [if_neg q, pk_un q]; exact hLi.2 i (by omega)
          · rw [e_A48n7, upA_ne (by decide), upA_ne (by decide), upA_ne (by decide)]; exact hSq.2 i hi
  exact lp (e - f) 0 f 0 [] [] h7n2 I7n2 AR (Nat.le_refl _) rfl FR_h7n2 M_h7n2 FI_I7n2 FaS.rf ⟨K_I7n2_33, fun i hi => absurd hi (Nat.not_lt_zero i)⟩ ⟨K_I7n2_31, fun i hi => absurd hi (Nat.not_lt_zero i)⟩
