/-! a description read: the class -/
def dsE (l : List Nat) (f : Nat) : Nat := f + 1 + (if 127 < (l).getD f 0 then ((l).getD f 0 - 126) / 2 else (l).getD f 0)
def dsW (l : List Nat) (f : Nat) : Option (List Nat) := if 127 < (l).getD f 0 then some ((List.range ((l).getD f 0 - 127)).map (drF l (f + 1))) else rdW l (f + 1) (dsE l f)
def rdC (l : List Nat) (f : Nat) : Option (Le × Nat) := if (l).length ≤ f then none else if (l).length < dsE l f then none else (dsW l f).bind (fun ws => if 256 ≤ (ws).length then none else (setF ws).map (fun x => (x, dsE l f)))
theorem rdC_0 {l : List Nat} {f : Nat} (h : (l).length ≤ f) : rdC l f = none := if_pos h
theorem rdC_1 {l : List Nat} {f : Nat} (h : ¬ (l).length ≤ f) (h1 : (l).length < dsE l f) : rdC l f = none := by
  unfold rdC
  rw [if_neg h, if_pos h1]
theorem rdC_2 {l : List Nat} {f : Nat} (h : ¬ (l).length ≤ f) (h1 : ¬ (l).length < dsE l f) : rdC l f = (dsW l f).bind (fun ws => if 256 ≤ (ws).length then none else (setF ws).map (fun x => (x, dsE l f))) := by
  unfold rdC
  rw [if_neg h, if_neg h1]
theorem rdC_n {l : List Nat} {f : Nat} (h : ¬ (l).length ≤ f) (h1 : ¬ (l).length < dsE l f) (h2 : dsW l f = none) : rdC l f = none := by
  rw [rdC_2 h h1, h2]
  rfl
theorem rdC_w {l ws : List Nat} {f : Nat} (h : ¬ (l).length ≤ f) (h1 : ¬ (l).length < dsE l f) (h2 : dsW l f = some ws) (h3 : 256 ≤ (ws).length ∨ setF ws = none) : rdC l f = none := by
  rw [rdC_2 h h1, h2]
  show (if 256 ≤ (ws).length then none else (setF ws).map _) = none
  split
  · rfl
  · rcases h3 with z | z
    · omega
    · rw [z]; rfl
theorem rdC_s {l ws : List Nat} {f : Nat} {x : Le} (h : ¬ (l).length ≤ f) (h1 : ¬ (l).length < dsE l f) (h2 : dsW l f = some ws) (h3 : (ws).length < 256) (h4 : setF ws = some x) : rdC l f = some (x, dsE l f) := by
  rw [rdC_2 h h1, h2]
  show (if 256 ≤ (ws).length then none else (setF ws).map _) = _
  rw [if_neg (by omega), h4]
  rfl
theorem rdC_ok {l : List Nat} {f e : Nat} {x : Le} (h : rdC l f = some (x, e)) : LenOk x.1 x.2 ∧ (∃ s, s < 256 ∧ x.1 s = x.2) ∧ e ≤ (l).length ∧ f < e := by
  by_cases h0 : (l).length ≤ f
  · rw [rdC_0 h0] at h; exact absurd h (by simp)
  · by_cases h1 : (l).length < dsE l f
    · rw [rdC_1 h0 h1] at h; exact absurd h (by simp)
    · cases e2 : dsW l f with
      | none => rw [rdC_n h0 h1 e2] at h; exact absurd h (by simp)
      | some ws =>
        by_cases h3 : 256 ≤ (ws).length ∨ setF ws = none
        · rw [rdC_w h0 h1 e2 h3] at h; exact absurd h (by simp)
        · cases e3 : setF ws with
          | none => exact absurd (Or.inr e3) h3
          | some y =>
            have h5 : (ws).length < 256 := Nat.lt_of_not_le (fun z => h3 (Or.inl z))
            rw [rdC_s h0 h1 e2 h5 e3] at h
            have q := Option.some.inj h
            have q1 : y = x := congrArg Prod.fst q
            have q2 : dsE l f = e := congrArg Prod.snd q
            rw [← q1, ← q2]
            exact ⟨(setF_ok h5 e3).1, (setF_ok h5 e3).2, by omega, by unfold dsE; omega⟩
theorem rng_getD (f : Nat → Nat) (k i : Nat) : ((List.range k).map f).getD i 0 = if i < k then f i else 0 := by
  by_cases z : i < k
  · rw [if_pos z]; exact rng_get z
  · rw [if_neg z, List.getD_eq_getElem?_getD, List.getElem?_eq_none (by simp; omega)]
    rfl
theorem dr_15 {l : List Nat} (hl : ∀ i, (l).getD i 0 < 256) (f i : Nat) : drF l f i ≤ 15 := by
  have := hl (f + i / 2)
  unfold drF
  split <;> omega
set_option maxRecDepth 20000 in
theorem x_rdDc0 {d n s : Nat} {h : Nat → aE} {be ot c f : Nat} {l : List Nat} {wA lA cA eA : Nat → Int32} {tp th : Int32} (hn : 190 ≤ n) (hc3 : 3 ≤ c) (hc : c + 3 < 67) (hf : f ≤ 8000) (F_h_67 : h 67 = .inr (2, [.ref 68, .ref 69, .ref 70, .ref be, .ref ot])) (F_h_68 : h 68 = .inl (1, 256, .inl wA)) (F_h_c : h c = .inr (0, [.ref (c + 1), .ref (c + 2), .ref (c + 3), .int tp, .int th])) (F_h__c_1_ : h (c + 1) = .inl (1, 256, .inl lA)) (F_h__c_2_ : h (c + 2) = .inl (1, 256, .inl cA)) (F_h__c_3_ : h (c + 3) = .inl (1, 13, .inl eA)) (F_h_1 : h 1 = .inr (7, [.ref 2, .int (nI (l).length), .int 0, .long 0, .int 0])) (P_h_in : RowIs h 1 8000 (some l) 0 0) (P_h_sx : ShX h 70 11 64) {Ψ : Option Value → aH → Prop} (k0 : rdC l f = none → ∀ h' wA', Fr h h' (fun j => j = 68 ∨ (70 ≤ j ∧ j ≤ 76) ∨ (c ≤ j ∧ j ≤ c + 3)) → h' 68 = .inl (1, 256, .inl wA') → ShX h' 70 11 64 → CoN h' c → Ψ (some (.int (-1))) (n, s, h')) (k1 : ∀ x e, rdC l f = some (x, e) → ∀ h' wA', Fr h h' (fun j => j = 68 ∨ (70 ≤ j ∧ j ≤ 76) ∨ (c ≤ j ∧ j ≤ c + 3)) → h' 68 = .inl (1, 256, .inl wA') → ShX h' 70 11 64 → CoT h' c x.1 x.2 → Ψ (some (.int (nI e))) (n, s, h')) : WO (mM (d + 6)) 28 [.ref 67, .ref 1, .int (nI f), .ref c] (n, s, h) Ψ := by
  refine WO.of (Nat.le_of_ble_eq_true rfl) ?_
  have FR_h : Fr h h (fun j => j = 68 ∨ (70 ≤ j ∧ j ≤ 76) ∨ (c ≤ j ∧ j ≤ c + 3)) := Fr.rf
  have hle := row_le P_h_in
  have hlt := row_lt P_h_in
  show WX (lk tX2_readFrom) (mM (d + 5)) Ψ 0 [(0, .ref 67), (1, .ref 1), (2, .int (nI f)), (3, .ref c)] [] (n, s, h)
  refine WX.s1 rfl rfl ?_
  refine WX.s1 rfl rfl ?_
  refine WX.put1 (fs := [.ref (c + 1), .ref (c + 2), .ref (c + 3), .int tp, .int th]) (fs' := [.ref (c + 1), .ref (c + 2), .ref (c + 3), .int tp, .int 0]) rfl (by omega) (F_h_c) (Nat.le_of_ble_eq_true rfl) (rfl) rfl (fun h2 e_h2 => ?_)
  have F_h2_67 : h2 67 = .inr (2, [.ref 68, .ref 69, .ref 70, .ref be, .ref ot]) := by rw [e_h2, va_up_neq (by omega)]; exact F_h_67
  have F_h2_68 : h2 68 = .inl (1, 256, .inl wA) := by rw [e_h2, va_up_neq (by omega)]; exact F_h_68
  have F_h2_c : h2 c = .inr (0, [.ref (c + 1), .ref (c + 2), .ref (c + 3), .int tp, .int 0]) := by rw [e_h2]; exact va_up_eq
  have F_h2__c_1_ : h2 (c + 1) = .inl (1, 256, .inl lA) := by rw [e_h2, va_up_neq (by omega)]; exact F_h__c_1_
  have F_h2__c_2_ : h2 (c + 2) = .inl (1, 256, .inl cA) := by rw [e_h2, va_up_neq (by omega)]; exact F_h__c_2_
  have F_h2__c_3_ : h2 (c + 3) = .inl (1, 13, .inl eA) := by rw [e_h2, va_up_neq (by omega)]; exact F_h__c_3_
  have F_h2_1 : h2 1 = .inr (7, [.ref 2, .int (nI (l).length), .int 0, .long 0, .int 0]) := by rw [e_h2, va_up_neq (by omega)]; exact F_h_1
  have P_h2_in : RowIs h2 1 8000 (some l) 0 0 := (P_h_in).zfr (Fr.of e_h2) (by omega) (by omega)
  have P_h2_sx : ShX h2 70 11 64 := (P_h_sx).zfr (Fr.of e_h2) (fun j h1 h2 => by omega)
  have FR_h2 : Fr h h2 (fun j => j = 68 ∨ (70 ≤ j ∧ j ≤ 76) ∨ (c ≤ j ∧ j ≤ c + 3)) := (FR_h).zup e_h2 (by first | exact rfl | exact Or.inl rfl | exact Or.inr rfl | exact ⟨by decide, by decide⟩ | decide | omega)
  clear F_h_67 F_h_68 F_h_c F_h__c_1_ F_h__c_2_ F_h__c_3_ F_h_1 P_h_in P_h_sx FR_h e_h2
  refine WX.s1 rfl rfl ?_
  refine WX.s1 rfl rfl ?_
  have coN : CoN h2 c := ⟨tp, lA, cA, eA, F_h2_c, F_h2__c_1_, F_h2__c_2_, F_h2__c_3_⟩
  refine WX.callC (vs := [.ref 1, .int (nI f)]) rfl rfl rfl (Nat.le_of_ble_eq_true rfl) ((P_h2_in).rcv (by omega)) ?_
  refine x_at1 (d := d + 4) (by omega) (by decide) (by omega) P_h2_in (fun v hv1 hv2 => ?_)
  by_cases hfl : (l).length ≤ f
  · obtain rfl := hv2 hfl
    show WX _ _ _ 10 [(0, .ref 67), (1, .ref 1), (2, .int (nI f)), (3, .ref c)] [.int (-1)] (n, s, h2)
    refine WX.s1 (L' := [(0, .ref 67), (1, .ref 1), (2, .int (nI f)), (3, .ref c), (4, .int (-1))]) rfl rfl ?_
    refine WX.s1 rfl rfl ?_
    refine WX.s1 rfl rfl ?_
    refine WX.icmp rfl (fun c_16 => ?_) (fun c_16 => absurd (by decide) c_16)
    clear c_16
    refine WX.s1 rfl rfl ?_
    refine WX.s1 (L' := [(0, .ref 67), (1, .ref 1), (2, .int (nI f)), (3, .ref c), (4, .int (-1)), (5, .int (-1))]) rfl rfl ?_
    refine WX.s1 rfl rfl ?_
    refine WX.s1 rfl rfl ?_
    refine WX.s1 (S' := [.int ((nI f) + 1)]) rfl rfl ?_
    rw [show ((nI f) + 1) = nI (f + 1) from nI_add f 1]
    refine WX.s1 rfl rfl ?_
    refine WX.s1 (S' := [.int ((nI (f + 1)) + (-1))]) rfl rfl ?_
    refine WX.s1 (L' := [(0, .ref 67), (1, .ref 1), (2, .int (nI f)), (3, .ref c), (4, .int (-1)), (5, .int (-1)), (6, .int ((nI (f + 1)) + (-1)))]) rfl rfl ?_
    refine WX.s1 rfl rfl ?_
    refine WX.if_ rfl (fun c_43 => ?_) (fun c_43 => absurd (by decide) c_43)
    clear c_43
    refine WX.s1 rfl rfl ?_
    exact WX.ret1 rfl (k0 (rdC_0 hfl) h2 wA FR_h2 F_h2_68 P_h2_sx coN)
  · obtain rfl := hv1 (by omega)
    have hx := hlt f
    show WX _ _ _ 10 [(0, .ref 67), (1, .ref 1), (2, .int (nI f)), (3, .ref c)] [.int (nI ((l).getD f 0))] (n, s, h2)
    refine WX.s1 (L' := [(0, .ref 67), (1, .ref 1), (2, .int (nI f)), (3, .ref c), (4, .int (nI ((l).getD f 0)))]) rfl rfl ?_
    have t31 : ∀ (nb : Nat), f + 1 + nb = (dsE l f) → nb < 256 → WX (lk tX2_readFrom) (mM (d + 5)) Ψ 31 [(0, .ref 67), (1, .ref 1), (2, .int (nI f)), (3, .ref c), (4, .int (nI ((l).getD f 0)))] [.int (nI nb)] (n, s, h2) := by
      intro nb enb hnb
      refine WX.s1 (L' := [(0, .ref 67), (1, .ref 1), (2, .int (nI f)), (3, .ref c), (4, .int (nI ((l).getD f 0))), (5, .int (nI nb))]) rfl rfl ?_
      refine WX.s1 rfl rfl ?_
      refine WX.s1 rfl rfl ?_
      refine WX.s1 (S' := [.int ((nI f) + 1)]) rfl rfl ?_
      rw [show ((nI f) + 1) = nI (f + 1) from nI_add f 1]
      refine WX.s1 rfl rfl ?_
      refine WX.s1 (S' := [.int ((nI (f + 1)) + (nI nb))]) rfl rfl ?_
      rw [nI_add, enb]
      refine WX.s1 (L' := [(0, .ref 67), (1, .ref 1), (2, .int (nI f)), (3, .ref c), (4, .int (nI ((l).getD f 0))), (5, .int (nI nb)), (6, .int (nI (dsE l f)))]) rfl rfl ?_
      refine WX.s1 rfl rfl ?_
      refine WX.if_ rfl (fun c_43 => absurd c_43 (fun zz_ => absurd ((nI_ltI (a := (l).getD f 0) (b := 0) (by omega) (by omega)).mp zz_) (Nat.not_lt.mpr (by omega)))) (fun c_43 => ?_)
      clear c_43
      refine WX.s1 rfl rfl ?_
      refine WX.s1 rfl rfl ?_
      refine WX.get1 (fs := [.ref 2, .int (nI (l).length), .int 0, .long 0, .int 0]) rfl (by omega) (F_h2_1) rfl ?_
      refine WX.icmp rfl (fun c_52 => ?_) (fun c_52 => ?_)
      · skip
        have n_52 : (dsE l f) ≤ (l).length := (nI_leI (a := dsE l f) (b := (l).length) (by omega) (by omega)).mp c_52
        refine WX.s1 rfl rfl ?_
        refine WX.s1 rfl rfl ?_
        refine WX.icmp rfl (fun c_61 => ?_) (fun c_61 => ?_)
        · skip
          have n_61 : ((l).getD f 0) ≤ 127 := (nI_leI (a := (l).getD f 0) (b := 127) (by omega) (by omega)).mp c_61
          refine WX.s1 rfl rfl ?_
          refine WX.s1 rfl rfl ?_
          refine WX.s1 rfl rfl ?_
          refine WX.s1 rfl rfl ?_
          refine WX.s1 (S' := [.int ((nI f) + 1), .ref 1, .ref 67]) rfl rfl ?_
          rw [show ((nI f) + 1) = nI (f + 1) from nI_add f 1]
          refine WX.s1 rfl rfl ?_
          have eD : dsW l f = rdW l (f + 1) (dsE l f) := by unfold dsW; rw [if_neg (by omega)]
          have hEf : f < (dsE l f) := by unfold dsE; omega
          refine WX.callC (vs := [.ref 67, .ref 1, .int (nI (f + 1)), .int (nI (dsE l f))]) rfl rfl rfl (Nat.le_of_ble_eq_true rfl) (rcv_ok (by omega) F_h2_67) ?_
          refine x_rdSt (d := d) hn (by omega) (by omega) (by omega) F_h2_67 F_h2_68 P_h2_in P_h2_sx (fun zr h6 w6 f6 F_h6_68 P_h6_sx => ?_) (fun ws zr h11 hl2 hl256 h6 w6 f6 F_h6_68 P_h6_sx U6 => ?_)
          · skip
            have F_h6_67 : h6 67 = .inr (2, [.ref 68, .ref 69, .ref 70, .ref be, .ref ot]) := (f6 _ (by omega)).trans F_h2_67
            have F_h6_c : h6 c = .inr (0, [.ref (c + 1), .ref (c + 2), .ref (c + 3), .int tp, .int 0]) := (f6 _ (by omega)).trans F_h2_c
            have F_h6__c_1_ : h6 (c + 1) = .inl (1, 256, .inl lA) := (f6 _ (by omega)).trans F_h2__c_1_
            have F_h6__c_2_ : h6 (c + 2) = .inl (1, 256, .inl cA) := (f6 _ (by omega)).trans F_h2__c_2_
            have F_h6__c_3_ : h6 (c + 3) = .inl (1, 13, .inl eA) := (f6 _ (by omega)).trans F_h2__c_3_
            have F_h6_1 : h6 1 = .inr (7, [.ref 2, .int (nI (l).length), .int 0, .long 0, .int 0]) := (f6 _ (by omega)).trans F_h2_1
            have FR_h6 : Fr h h6 (fun j => j = 68 ∨ (70 ≤ j ∧ j ≤ 76) ∨ (c ≤ j ∧ j ≤ c + 3)) := (FR_h2).ztr ((f6).mono (fun j hj => by omega))
            show WX _ _ _ 90 [(0, .ref 67), (1, .ref 1), (2, .int (nI f)), (3, .ref c), (4, .int (nI ((l).getD f 0))), (5, .int (nI nb)), (6, .int (nI (dsE l f)))] [.int (-1)] (n, s, h6)
            refine WX.s1 (L' := [(0, .ref 67), (1, .ref 1), (2, .int (nI f)), (3, .ref c), (4, .int (nI ((l).getD f 0))), (5, .int (nI nb)), (6, .int (nI (dsE l f))), (7, .int (-1))]) rfl rfl ?_
            refine WX.s1 rfl rfl ?_
            refine WX.if_ rfl (fun c_94 => ?_) (fun c_94 => absurd (by decide) c_94)
            clear c_94
            refine WX.s1 rfl rfl ?_
            exact WX.ret1 rfl (k0 (rdC_n hfl (by omega) ((eD).trans zr)) h6 w6 FR_h6 F_h6_68 P_h6_sx ⟨tp, lA, cA, eA, F_h6_c, F_h6__c_1_, F_h6__c_2_, F_h6__c_3_⟩)
          · skip
            have F_h6_67 : h6 67 = .inr (2, [.ref 68, .ref 69, .ref 70, .ref be, .ref ot]) := (f6 _ (by omega)).trans F_h2_67
            have F_h6_c : h6 c = .inr (0, [.ref (c + 1), .ref (c + 2), .ref (c + 3), .int tp, .int 0]) := (f6 _ (by omega)).trans F_h2_c
            have F_h6__c_1_ : h6 (c + 1) = .inl (1, 256, .inl lA) := (f6 _ (by omega)).trans F_h2__c_1_
            have F_h6__c_2_ : h6 (c + 2) = .inl (1, 256, .inl cA) := (f6 _ (by omega)).trans F_h2__c_2_
            have F_h6__c_3_ : h6 (c + 3) = .inl (1, 13, .inl eA) := (f6 _ (by omega)).trans F_h2__c_3_
            have F_h6_1 : h6 1 = .inr (7, [.ref 2, .int (nI (l).length), .int 0, .long 0, .int 0]) := (f6 _ (by omega)).trans F_h2_1
            have FR_h6 : Fr h h6 (fun j => j = 68 ∨ (70 ≤ j ∧ j ≤ 76) ∨ (c ≤ j ∧ j ≤ c + 3)) := (FR_h2).ztr ((f6).mono (fun j hj => by omega))
            have eW : dsW l f = some ws := (eD).trans zr
            have hU := U6
            have h15 : ∀ i, (ws).getD i 0 ≤ 15 := fun i => Nat.le_trans (h11 i) (by decide)
            show WX _ _ _ 90 [(0, .ref 67), (1, .ref 1), (2, .int (nI f)), (3, .ref c), (4, .int (nI ((l).getD f 0))), (5, .int (nI nb)), (6, .int (nI (dsE l f)))] [.int (nI (ws).length)] (n, s, h6)
            refine WX.s1 (L' := [(0, .ref 67), (1, .ref 1), (2, .int (nI f)), (3, .ref c), (4, .int (nI ((l).getD f 0))), (5, .int (nI nb)), (6, .int (nI (dsE l f))), (7, .int (nI (ws).length))]) rfl rfl ?_
            refine WX.s1 rfl rfl ?_
            refine WX.if_ rfl (fun c_94 => absurd c_94 (fun zz_ => absurd ((nI_leI (a := (ws).length) (b := 0) (by omega) (by omega)).mp zz_) (Nat.not_le.mpr (by omega)))) (fun c_94 => ?_)
            clear c_94
            refine WX.s1 rfl rfl ?_
            refine WX.s1 rfl rfl ?_
            refine WX.s1 rfl rfl ?_
            refine WX.callC (vs := [.ref 67, .int (nI (ws).length), .ref c]) rfl rfl rfl (Nat.le_of_ble_eq_true rfl) (rcv_ok (by omega) F_h6_67) ?_
            refine x_setl (d := d + 2) (ws := ws) hn hc3 hc (by omega) (by omega) h15 hU F_h6_67 F_h6_68 F_h6_c F_h6__c_1_ F_h6__c_2_ F_h6__c_3_ (fun zs h7 w7 f7 F7 => ?_) (fun x zl zs h7 w7 f7 F7 T7 => ?_)
            · skip
              have FR_h7 : Fr h h7 (fun j => j = 68 ∨ (70 ≤ j ∧ j ≤ 76) ∨ (c ≤ j ∧ j ≤ c + 3)) := (FR_h6).ztr ((f7).mono (fun j hj => by omega))
              have sx7 : ShX h7 70 11 64 := (P_h6_sx).zfr f7 (fun j h1 h2 => by omega)
              have co7 : CoN h7 c := ⟨tp, lA, cA, eA, (f7 _ (by omega)).trans F_h6_c, (f7 _ (by omega)).trans F_h6__c_1_, (f7 _ (by omega)).trans F_h6__c_2_, (f7 _ (by omega)).trans F_h6__c_3_⟩
              show WX _ _ _ 104 [(0, .ref 67), (1, .ref 1), (2, .int (nI f)), (3, .ref c), (4, .int (nI ((l).getD f 0))), (5, .int (nI nb)), (6, .int (nI (dsE l f))), (7, .int (nI (ws).length))] [.int 0] (n, s, h7)
              refine WX.if_ rfl (fun c_104 => ?_) (fun c_104 => absurd (by decide) c_104)
              clear c_104
              refine WX.s1 rfl rfl ?_
              exact WX.ret1 rfl (k0 (rdC_w hfl (by omega) eW zs) h7 w7 FR_h7 F7 sx7 co7)
            · skip
              have FR_h7 : Fr h h7 (fun j => j = 68 ∨ (70 ≤ j ∧ j ≤ 76) ∨ (c ≤ j ∧ j ≤ c + 3)) := (FR_h6).ztr ((f7).mono (fun j hj => by omega))
              have sx7 : ShX h7 70 11 64 := (P_h6_sx).zfr f7 (fun j h1 h2 => by omega)
              show WX _ _ _ 104 [(0, .ref 67), (1, .ref 1), (2, .int (nI f)), (3, .ref c), (4, .int (nI ((l).getD f 0))), (5, .int (nI nb)), (6, .int (nI (dsE l f))), (7, .int (nI (ws).length))] [.int 1] (n, s, h7)
              refine WX.if_ rfl (fun c_104 => absurd c_104 (by decide)) (fun c_104 => ?_)
              clear c_104
              refine WX.s1 rfl rfl ?_
              refine WX.s1 rfl rfl ?_
              exact WX.ret1 rfl (k1 x _ (rdC_s hfl (by omega) eW zl zs) h7 w7 FR_h7 F7 sx7 T7)
        · skip
          have n_61 : 127 < ((l).getD f 0) := Nat.lt_of_not_le (fun zz_ => c_61 ((nI_leI (a := (l).getD f 0) (b := 127) (by omega) (by omega)).mpr zz_))
          refine WX.s1 rfl rfl ?_
          refine WX.s1 rfl rfl ?_
          refine WX.s1 rfl rfl ?_
          refine WX.s1 rfl rfl ?_
          refine WX.s1 (S' := [.int ((nI f) + 1), .ref 1, .ref 67]) rfl rfl ?_
          rw [show ((nI f) + 1) = nI (f + 1) from nI_add f 1]
          refine WX.s1 rfl rfl ?_
          refine WX.s1 rfl rfl ?_
          refine WX.s1 (S' := [.int ((nI ((l).getD f 0)) - 127), .int (nI (f + 1)), .ref 1, .ref 67]) rfl rfl ?_
          rw [show nI ((l).getD f 0) - 127 = nI (((l).getD f 0) - 127) from nI_subN (b := 127) (by omega)]
          have eW : dsW l f = some ((List.range (((l).getD f 0) - 127)).map (drF l (f + 1))) := by unfold dsW; rw [if_pos (by omega)]
          have hDl : ((List.range (((l).getD f 0) - 127)).map (drF l (f + 1))).length = ((l).getD f 0) - 127 := by rw [List.length_map, List.length_range]
          refine WX.callC (vs := [.ref 67, .ref 1, .int (nI (f + 1)), .int (nI (((l).getD f 0) - 127))]) rfl rfl rfl (Nat.le_of_ble_eq_true rfl) (rcv_ok (by omega) F_h2_67) ?_
          refine x_rdDir (d := d + 3) hn (by omega) (by omega) F_h2_67 F_h2_68 P_h2_in (fun h6 w6 f6 F_h6_68 U6 => ?_)
          have F_h6_67 : h6 67 = .inr (2, [.ref 68, .ref 69, .ref 70, .ref be, .ref ot]) := (f6 _ (by omega)).trans F_h2_67
          have F_h6_c : h6 c = .inr (0, [.ref (c + 1), .ref (c + 2), .ref (c + 3), .int tp, .int 0]) := (f6 _ (by omega)).trans F_h2_c
          have F_h6__c_1_ : h6 (c + 1) = .inl (1, 256, .inl lA) := (f6 _ (by omega)).trans F_h2__c_1_
          have F_h6__c_2_ : h6 (c + 2) = .inl (1, 256, .inl cA) := (f6 _ (by omega)).trans F_h2__c_2_
          have F_h6__c_3_ : h6 (c + 3) = .inl (1, 13, .inl eA) := (f6 _ (by omega)).trans F_h2__c_3_
          have F_h6_1 : h6 1 = .inr (7, [.ref 2, .int (nI (l).length), .int 0, .long 0, .int 0]) := (f6 _ (by omega)).trans F_h2_1
          have P_h6_sx : ShX h6 70 11 64 := (P_h2_sx).zfr f6 (fun j h1 h2 => by omega)
          have FR_h6 : Fr h h6 (fun j => j = 68 ∨ (70 ≤ j ∧ j ≤ 76) ∨ (c ≤ j ∧ j ≤ c + 3)) := (FR_h2).ztr ((f6).mono (fun j hj => by omega))
          have hU : ∀ i, i < ((List.range (((l).getD f 0) - 127)).map (drF l (f + 1))).length → w6 i = nI (((List.range (((l).getD f 0) - 127)).map (drF l (f + 1))).getD i 0) := fun i hi => by rw [rng_getD, if_pos (by omega)]; exact U6 i (by omega)
          have h15 : ∀ i, ((List.range (((l).getD f 0) - 127)).map (drF l (f + 1))).getD i 0 ≤ 15 := fun i => by
            rw [rng_getD]; split
            · exact dr_15 hlt _ _
            · exact Nat.zero_le _
          rw [← hDl]
          show WX _ _ _ 77 [(0, .ref 67), (1, .ref 1), (2, .int (nI f)), (3, .ref c), (4, .int (nI ((l).getD f 0))), (5, .int (nI nb)), (6, .int (nI (dsE l f)))] [.int (nI ((List.range (((l).getD f 0) - 127)).map (drF l (f + 1))).length)] (n, s, h6)
          refine WX.s1 rfl rfl ?_
          refine WX.s1 (L' := [(0, .ref 67), (1, .ref 1), (2, .int (nI f)), (3, .ref c), (4, .int (nI ((l).getD f 0))), (5, .int (nI nb)), (6, .int (nI (dsE l f))), (7, .int (nI ((List.range (((l).getD f 0) - 127)).map (drF l (f + 1))).length))]) rfl rfl ?_
          refine WX.s1 rfl rfl ?_
          refine WX.if_ rfl (fun c_94 => absurd c_94 (fun zz_ => absurd ((nI_leI (a := ((List.range (((l).getD f 0) - 127)).map (drF l (f + 1))).length) (b := 0) (by omega) (by omega)).mp zz_) (Nat.not_le.mpr (by omega)))) (fun c_94 => ?_)
          clear c_94
          refine WX.s1 rfl rfl ?_
          refine WX.s1 rfl rfl ?_
          refine WX.s1 rfl rfl ?_
          refine WX.callC (vs := [.ref 67, .int (nI ((List.range (((l).getD f 0) - 127)).map (drF l (f + 1))).length), .ref c]) rfl rfl rfl (Nat.le_of_ble_eq_true rfl) (rcv_ok (by omega) F_h6_67) ?_
          refine x_setl (d := d + 2) (ws := ((List.range (((l).getD f 0) - 127)).map (drF l (f + 1)))) hn hc3 hc (by omega) (by omega) h15 hU F_h6_67 F_h6_68 F_h6_c F_h6__c_1_ F_h6__c_2_ F_h6__c_3_ (fun zs h7 w7 f7 F7 => ?_) (fun x zl zs h7 w7 f7 F7 T7 => ?_)
          · skip
            have FR_h7 : Fr h h7 (fun j => j = 68 ∨ (70 ≤ j ∧ j ≤ 76) ∨ (c ≤ j ∧ j ≤ c + 3)) := (FR_h6).ztr ((f7).mono (fun j hj => by omega))
            have sx7 : ShX h7 70 11 64 := (P_h6_sx).zfr f7 (fun j h1 h2 => by omega)
            have co7 : CoN h7 c := ⟨tp, lA, cA, eA, (f7 _ (by omega)).trans F_h6_c, (f7 _ (by omega)).trans F_h6__c_1_, (f7 _ (by omega)).trans F_h6__c_2_, (f7 _ (by omega)).trans F_h6__c_3_⟩
            show WX _ _ _ 104 [(0, .ref 67), (1, .ref 1), (2, .int (nI f)), (3, .ref c), (4, .int (nI ((l).getD f 0))), (5, .int (nI nb)), (6, .int (nI (dsE l f))), (7, .int (nI ((List.range (((l).getD f 0) - 127)).map (drF l (f + 1))).length))] [.int 0] (n, s, h7)
            refine WX.if_ rfl (fun c_104 => ?_) (fun c_104 => absurd (by decide) c_104)
            clear c_104
            refine WX.s1 rfl rfl ?_
            exact WX.ret1 rfl (k0 (rdC_w hfl (by omega) eW zs) h7 w7 FR_h7 F7 sx7 co7)
          · skip
            have FR_h7 : Fr h h7 (fun j => j = 68 ∨ (70 ≤ j ∧ j ≤ 76) ∨ (c ≤ j ∧ j ≤ c + 3)) := (FR_h6).ztr ((f7).mono (fun j hj => by omega))
            have sx7 : ShX h7 70 11 64 := (P_h6_sx).zfr f7 (fun j h1 h2 => by omega)
            show WX _ _ _ 104 [(0, .ref 67), (1, .ref 1), (2, .int (nI f)), (3, .ref c), (4, .int (nI ((l).getD f 0))), (5, .int (nI nb)), (6, .int (nI (dsE l f))), (7, .int (nI ((List.range (((l).getD f 0) - 127)).map (drF l (f + 1))).length))] [.int 1] (n, s, h7)
            refine WX.if_ rfl (fun c_104 => absurd c_104 (by decide)) (fun c_104 => ?_)
            clear c_104
            refine WX.s1 rfl rfl ?_
            refine WX.s1 rfl rfl ?_
            exact WX.ret1 rfl (k1 x _ (rdC_s hfl (by omega) eW zl zs) h7 w7 FR_h7 F7 sx7 T7)
      · skip
        have n_52 : (l).length < (dsE l f) := Nat.lt_of_not_le (fun zz_ => c_52 ((nI_leI (a := dsE l f) (b := (l).length) (by omega) (by omega)).mpr zz_))
        refine WX.s1 rfl rfl ?_
        exact WX.ret1 rfl (k0 (rdC_1 hfl (by omega)) h2 wA FR_h2 F_h2_68 P_h2_sx coN)
    refine WX.s1 rfl rfl ?_
    refine WX.s1 rfl rfl ?_
    refine WX.icmp rfl (fun c_16 => ?_) (fun c_16 => ?_)
    · skip
      have n_16 : ((l).getD f 0) ≤ 127 := (nI_leI (a := (l).getD f 0) (b := 127) (by omega) (by omega)).mp c_16
      refine WX.s1 rfl rfl ?_
      exact t31 _ (by unfold dsE; rw [if_neg (by omega)]) (by omega)
    · skip
      have n_16 : 127 < ((l).getD f 0) := Nat.lt_of_not_le (fun zz_ => c_16 ((nI_leI (a := (l).getD f 0) (b := 127) (by omega) (by omega)).mpr zz_))
      refine WX.s1 rfl rfl ?_
      refine WX.s1 rfl rfl ?_
      refine WX.s1 (S' := [.int ((nI ((l).getD f 0)) - 126)]) rfl rfl ?_
      rw [show nI ((l).getD f 0) - 126 = nI (((l).getD f 0) - 126) from nI_subN (b := 126) (by omega)]
      refine WX.s1 rfl rfl ?_
      refine WX.div rfl (by decide) ?_
      rw [show nI (((l).getD f 0) - 126) / 2 = nI ((((l).getD f 0) - 126) / 2) from pk_div (by omega) (by decide) (by decide)]
      refine WX.s1 rfl rfl ?_
      exact t31 _ (by unfold dsE; rw [if_pos (by omega)]) (by omega)
theorem x_rdDc {d n s : Nat} {h : Nat → aE} {c f : Nat} {l : List Nat} (hn : 190 ≤ n) (hc3 : 3 ≤ c) (hc : c + 3 < 67) (hf : f ≤ 8000) (hD : DX h) (hC : CoX h c) (hR : RowIs h 1 8000 (some l) 0 0) {Ψ : Option Value → aH → Prop} (k0 : rdC l f = none → ∀ h', Fr h h' (fun j => j = 68 ∨ (70 ≤ j ∧ j ≤ 76) ∨ (c ≤ j ∧ j ≤ c + 3)) → DX h' → CoN h' c → Ψ (some (.int (-1))) (n, s, h')) (k1 : ∀ x e, rdC l f = some (x, e) → ∀ h', Fr h h' (fun j => j = 68 ∨ (70 ≤ j ∧ j ≤ 76) ∨ (c ≤ j ∧ j ≤ c + 3)) → DX h' → CoT h' c x.1 x.2 → Ψ (some (.int (nI e))) (n, s, h')) : WO (mM (d + 6)) 28 [.ref 67, .ref 1, .int (nI f), .ref c] (n, s, h) Ψ := by
  obtain ⟨be, ot, wA, cA2, hbo, q1, q2, q3, q4, q5, q6⟩ := hD
  obtain ⟨tp, th, lA, cA, eA, p1, p2, p3, p4⟩ := hC
  have mk : ∀ (h' : Nat → aE) (w' : Nat → Int32), Fr h h' (fun j => j = 68 ∨ (70 ≤ j ∧ j ≤ 76) ∨ (c ≤ j ∧ j ≤ c + 3)) → h' 68 = .inl (1, 256, .inl w') → ShX h' 70 11 64 → DX h' := fun h' w' f a b => ⟨be, ot, w', cA2, hbo, (f _ (by omega)).trans q1, a, (f _ (by omega)).trans q3, b, (q5).zfr f (by omega) (by omega), (q6).zfr f (by omega) (by omega)⟩
  exact x_rdDc0 hn hc3 hc hf q1 q2 p1 p2 p3 p4 (row_obj hR) hR q4 (fun z h' w' f a b e => k0 z h' f (mk h' w' f a b) e) (fun x e z h' w' f a b g => k1 x e z h' f (mk h' w' f a b) g)
