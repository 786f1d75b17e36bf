/-! the description, the class's: which way -/
def DX (h : Nat → aE) : Prop := ∃ (be ot : Nat) (wA cA : Nat → Int32), ((be = 77 ∧ ot = 79) ∨ (be = 79 ∧ ot = 77)) ∧ h 67 = .inr (2, [.ref 68, .ref 69, .ref 70, .ref be, .ref ot]) ∧ h 68 = .inl (1, 256, .inl wA) ∧ h 69 = .inl (1, 12, .inl cA) ∧ ShX h 70 11 64 ∧ RowE h 77 512 ∧ RowE h 79 512
theorem DX.zfr {h h1 : Nat → aE} {A : Nat → Prop} (r : DX h) (f : Fr h h1 A) (q : ∀ j, 67 ≤ j → j ≤ 80 → ¬ A j) : DX h1 := by
  obtain ⟨be, ot, wA, cA, r0, r1, r2, r3, r4, r5, r6⟩ := r
  exact ⟨be, ot, wA, cA, r0, (f _ (q _ (by decide) (by decide))).trans r1, (f _ (q _ (by decide) (by decide))).trans r2, (f _ (q _ (by decide) (by decide))).trans r3, r4.zfr f (fun j h1 h2 => q j (by omega) (by omega)), r5.zfr f (q _ (by decide) (by decide)) (q _ (by decide) (by decide)), r6.zfr f (q _ (by decide) (by decide)) (q _ (by decide) (by decide))⟩
theorem DX.of {h : Nat → aE} {be ot : Nat} {wA cA : Nat → Int32} (hbo : (be = 77 ∧ ot = 79) ∨ (be = 79 ∧ ot = 77)) (r1 : h 67 = .inr (2, [.ref 68, .ref 69, .ref 70, .ref be, .ref ot])) (r2 : h 68 = .inl (1, 256, .inl wA)) (r3 : h 69 = .inl (1, 12, .inl cA)) (r4 : ShX h 70 11 64) (r5 : RowE h be 512) (r6 : RowE h ot 512) : DX h := by
  refine ⟨be, ot, wA, cA, hbo, r1, r2, r3, r4, ?_, ?_⟩
  · rcases hbo with ⟨z1, z2⟩ | ⟨z1, z2⟩
    · rw [← z1]; exact r5
    · rw [← z2]; exact r6
  · rcases hbo with ⟨z1, z2⟩ | ⟨z1, z2⟩
    · rw [← z2]; exact r6
    · rw [← z1]; exact r5
theorem kinds2 {ws : List Nat} (hok : SyOk ws) : (cdF ws).1 (ws.getD 0 0) < ws.length ↔ 2 ≤ (cdF ws).2 := by
  have h0 := getD_mem (show 0 < ws.length by have := hok.2.1; omega)
  have hc : (cdF ws).1 (ws.getD 0 0) = ws.count (ws.getD 0 0) := cd_cnt _ _
  have hle : ws.count (ws.getD 0 0) ≤ ws.length := List.count_le_length
  have h1 : 1 ≤ (cdF ws).2 := by
    rw [← cd_nz hok.1]
    have q := sumN_get (fun s => if (cdF ws).1 s = 0 then 0 else 1) (hok.1 _ h0)
    have q2 : (if (cdF ws).1 (ws.getD 0 0) = 0 then 0 else 1) ≤ nzC (cdF ws).1 64 := q
    rw [if_neg (cd_pos.mpr h0)] at q2
    exact q2
  constructor
  · intro z
    apply Classical.byContradiction
    intro y
    have e := cd_one hok (show (cdF ws).2 = 1 by omega)
    have : ws.count (ws.getD 0 0) = ws.length := List.count_eq_length.mpr (fun b hb => (e b hb).symm)
    omega
  · intro z
    apply Classical.byContradiction
    intro y
    have : ws.count (ws.getD 0 0) = ws.length := by omega
    have e := cd_same hok (fun s hs => (List.count_eq_length.mp this s hs).symm)
    omega
set_option maxRecDepth 20000 in
theorem x_dDesc {d n s : Nat} {h : Nat → aE} {L : Nat → Nat} {t : Nat} (hn : 190 ≤ n) (hk1 : 1 ≤ lsF L 255) (hX : DX h)  (P_h_co : CoT h 96 L t) (P_h_told : RowIs h 106 256 (some []) 0 0) {Ψ : Option Value → aH → Prop} (kkN : dsY (wtL L t) = none → ∀ h', Fr h h' (fun j => (67 ≤ j ∧ j ≤ 80) ∨ j = 106 ∨ j = 107) → DX h' → RowIs h' 106 256 (some []) 0 0 → Ψ (some (.int 0)) (n, s, h')) (kkS : ∀ y, dsY (wtL L t) = some y → ∀ h', Fr h h' (fun j => (67 ≤ j ∧ j ≤ 80) ∨ j = 106 ∨ j = 107) → DX h' → RowIs h' 106 256 (some y) 0 0 → y.length ≤ 129 → Ψ (some (.int 1)) (n, s, h')) : WO (mM (d + 4)) 24 [.ref 67, .ref 96, .ref 106] (n, s, h) Ψ := by
  refine WO.of (Nat.le_of_ble_eq_true rfl) ?_
  have FR_h : Fr h h (fun j => (67 ≤ j ∧ j ≤ 80) ∨ j = 106 ∨ j = 107) := Fr.rf
  obtain ⟨be, ot, wA, cA, hbo, F_h_67, F_h_68, F_h_69, P_h_sh, hR7, hR9⟩ := id hX
  have P_h_be : RowE h be 512 := by rcases hbo with ⟨z, -⟩ | ⟨z, -⟩ <;> rw [z] <;> assumption
  have P_h_ot : RowE h ot 512 := by rcases hbo with ⟨-, z⟩ | ⟨-, z⟩ <;> rw [z] <;> assumption
  clear hR7 hR9 hX
  have hok : LenOk L t := by obtain ⟨c, d, e, r, y⟩ := P_h_co; exact y.2.2
  have hk255 := lsF_le L 255
  have hwl := wtL_len L t
  have hwle := wt_le hok
  show WX (lk tX2_describe) (mM (d + 3)) Ψ 0 [(0, .ref 67), (1, .ref 96), (2, .ref 106)] [] (n, s, h)
  refine WX.s1 rfl rfl ?_
  refine WX.s1 rfl rfl ?_
  obtain ⟨lA, kA, eA, ⟨F_h_96, F_h_97, -, -⟩, hLn, -, -⟩ := id P_h_co
  refine WX.callC (vs := [.ref 67, .ref 96]) rfl rfl rfl (Nat.le_of_ble_eq_true rfl) (rcv_ok (by omega) F_h_67) ?_
  refine x_dWeigh hn (q := 96) (by omega) (Or.inl rfl) hok hLn F_h_67 F_h_68 F_h_69 F_h_96 F_h_97 (fun h2 w2 c2 fr2 F_h2_68 F_h2_69 hw hc => ?_)
  have F_h2_67 : h2 67 = .inr (2, [.ref 68, .ref 69, .ref 70, .ref be, .ref ot]) := (fr2 _ (by first | decide | omega)).trans F_h_67
  have P_h2_co : CoT h2 96 L t := P_h_co.zfr fr2 (fun j h1 h2 => by omega)
  have P_h2_told : RowIs h2 106 256 (some []) 0 0 := P_h_told.zfr fr2 (by first | decide | omega) (by first | decide | omega)
  have P_h2_sh : ShX h2 70 11 64 := P_h_sh.zfr fr2 (fun j h1 h2 => by omega)
  have P_h2_be : RowE h2 be 512 := P_h_be.zfr fr2 (by omega) (by omega)
  have P_h2_ot : RowE h2 ot 512 := P_h_ot.zfr fr2 (by omega) (by omega)
  have FR_h2 : Fr h h2 (fun j => (67 ≤ j ∧ j ≤ 80) ∨ j = 106 ∨ j = 107) := FR_h.zsub fr2 (fun j hj => by first | exact hj | exact Or.inl hj | exact Or.inr hj | omega)
  show WX _ _ _ 5 [(0, .ref 67), (1, .ref 96), (2, .ref 106)] [.int (nI (lsF L 255))] (n, s, h2)
  have hw9 : ∀ i, i < (wtL L t).length → w2 i = nI ((wtL L t).getD i 0) := fun i hi => hw i (by omega)
  have hc9 : CntIs c2 (cdF (wtL L t)).1 12 := fun s hs => hc s hs
  refine WX.s1 (L' := [(0, .ref 67), (1, .ref 96), (2, .ref 106), (3, .int (nI (lsF L 255)))]) rfl rfl ?_
  have hsy : SyOk (wtL L t) := ⟨fun s hs => by have := hwle s hs; omega, by omega, by omega⟩
  have hkd := kinds2 hsy
  have hk0 := hwle _ (getD_mem (show 0 < (wtL L t).length by omega))
  by_cases hv : 2 ≤ (cdF (wtL L t)).2 ∧ 2 ≤ (lsF L 255)
  · have hws : WsOk (wtL L t) := ⟨hwle, by omega, by omega, hv.1⟩
    have l5 := st_len hws (o := 5) (by decide) (by decide)
    have l6 := st_len hws (o := 6) (by decide) (by decide)
    obtain ⟨n5, hn5⟩ : ∃ q, q = (stY (wtL L t) 5).length := ⟨_, rfl⟩
    obtain ⟨n6, hn6⟩ : ∃ q, q = (stY (wtL L t) 6).length := ⟨_, rfl⟩
    rw [← hn5] at l5
    rw [← hn6] at l6
    have hbl : (bsY (wtL L t)).length ≤ 230 ∧ bsN (wtL L t) = (if (bsY (wtL L t)).length < 128 then (bsY (wtL L t)).length else 0) ∧ 1 ≤ (bsY (wtL L t)).length := by
      have e : (bsY (wtL L t)).length = n6 ∨ (bsY (wtL L t)).length = n5 := by unfold bsY; split; exact Or.inl hn6.symm; exact Or.inr hn5.symm
      refine ⟨by omega, ?_, by omega⟩
      unfold bsN
      by_cases y : (bsY (wtL L t)).length < 128
      · rw [if_pos ⟨hv.1, by omega, y⟩, if_pos y]
      · rw [if_neg (fun q => y q.2.2), if_neg y]
    obtain ⟨nb, hnb⟩ : ∃ q, q = (bsY (wtL L t)).length := ⟨_, rfl⟩
    rw [← hnb] at hbl
    have hbn : (nb < 128 ∧ bsN (wtL L t) = nb) ∨ (128 ≤ nb ∧ bsN (wtL L t) = 0) := by by_cases y : nb < 128; have q := hbl.2.1; rw [if_pos y] at q; exact Or.inl ⟨y, q⟩; have q := hbl.2.1; rw [if_neg y] at q; exact Or.inr ⟨by omega, q⟩
    have t144 : ∀ (hL : Nat → aE) (b2 o2 : Nat) (od : Int32), ((b2 = 77 ∧ o2 = 79) ∨ (b2 = 79 ∧ o2 = 77)) → Fr h hL (fun j => (67 ≤ j ∧ j ≤ 80) ∨ j = 106 ∨ j = 107) → hL 67 = .inr (2, [.ref 68, .ref 69, .ref 70, .ref b2, .ref o2]) → hL 68 = .inl (1, 256, .inl w2) → hL 69 = .inl (1, 12, .inl c2) → ShX hL 70 11 64 → RowIs hL b2 512 (some (bsY (wtL L t))) 0 0 → RowE hL o2 512 → RowIs hL 106 256 (some []) 0 0 → WX (lk tX2_describe) (mM (d + 3)) Ψ 144 [(0, .ref 67), (1, .ref 96), (2, .ref 106), (3, .int (nI (lsF L 255))), (4, .int 1), (5, .int od)] [] (n, s, hL) := by
      clear F_h2_67 F_h2_68 F_h2_69 FR_h2 P_h2_co P_h2_told P_h2_sh P_h2_be P_h2_ot hbo
      intro hL b2 o2 od hbo FR_hL F_hL_67 F_hL_68 F_hL_69 P_hL_sh P_hL_be P_hL_ot P_hL_told
      obtain ⟨gB, hB9, -⟩ := P_hL_be.at_
      have F_hL_b2 := hB9.1
      rw [← hnb] at F_hL_b2
      refine WX.s1 rfl rfl ?_
      refine WX.if_ rfl (fun c_146 => absurd c_146 (by decide)) (fun c_146 => ?_)
      clear c_146
      refine WX.s1 rfl rfl ?_
      refine WX.get1 (fs := [.ref 68, .ref 69, .ref 70, .ref b2, .ref o2]) rfl (by omega) (F_hL_67) rfl ?_
      refine WX.get1 (fs := [.ref (b2 + 1), .int (nI nb), .int 0, .long 0, .int 0]) rfl (by omega) (F_hL_b2) rfl ?_
      refine WX.s1 rfl rfl ?_
      refine WX.icmp rfl (fun c_159 => ?_) (fun c_159 => ?_)
      · skip
        have n_159 : 128 ≤ nb := (nI_leI (a := 128) (b := nb) (by omega) (by omega)).mp c_159
        refine WX.s1 rfl rfl ?_
        refine WX.s1 (L' := [(0, .ref 67), (1, .ref 96), (2, .ref 106), (3, .int (nI (lsF L 255))), (4, .int 1), (5, .int 0)]) rfl rfl ?_
        refine WX.s1 rfl rfl ?_
        refine WX.s1 rfl rfl ?_
        refine WX.icmp rfl (fun c_179 => ?_) (fun c_179 => ?_)
        · skip
          have n_179 : 128 < (lsF L 255) := (nI_ltI (a := 128) (b := lsF L 255) (by omega) (by omega)).mp c_179
          refine WX.s1 rfl rfl ?_
          refine WX.s1 (L' := [(0, .ref 67), (1, .ref 96), (2, .ref 106), (3, .int (nI (lsF L 255))), (4, .int 1), (5, .int 0), (6, .int 0)]) rfl rfl ?_
          refine WX.s1 rfl rfl ?_
          refine WX.if_ rfl (fun c_195 => ?_) (fun c_195 => absurd (by decide) c_195)
          clear c_195
          refine WX.s1 rfl rfl ?_
          refine WX.if_ rfl (fun c_220 => ?_) (fun c_220 => absurd (by decide) c_220)
          clear c_220
          refine WX.s1 rfl rfl ?_
          refine WX.if_ rfl (fun c_242 => ?_) (fun c_242 => absurd (by decide) c_242)
          clear c_242
          refine WX.s1 rfl rfl ?_
          have hno : dsY (wtL L t) = none := by unfold dsY; rw [hwl, if_neg (by omega), if_pos (by omega)]
          exact WX.ret3 rfl (by decide) (kkN hno hL FR_hL (DX.of hbo F_hL_67 F_hL_68 F_hL_69 P_hL_sh P_hL_be.toE P_hL_ot) P_hL_told)
        · skip
          have n_179 : (lsF L 255) ≤ 128 := Nat.le_of_not_lt (fun zz_ => c_179 ((nI_ltI (a := 128) (b := lsF L 255) (by omega) (by omega)).mpr zz_))
          refine WX.s1 rfl rfl ?_
          refine WX.s1 rfl rfl ?_
          refine WX.s1 (S' := [.int ((nI (lsF L 255)) + 1)]) rfl rfl ?_
          rw [show ((nI (lsF L 255)) + 1) = nI (lsF L 255 + 1) from nI_add (lsF L 255) 1]
          refine WX.s1 rfl rfl ?_
          refine WX.div rfl (by decide) ?_
          rw [show nI ((lsF L 255) + 1) / 2 = nI (((lsF L 255) + 1) / 2) from pk_div (by omega) (by decide) (by decide)]
          refine WX.s1 rfl rfl ?_
          refine WX.s1 (L' := [(0, .ref 67), (1, .ref 96), (2, .ref 106), (3, .int (nI (lsF L 255))), (4, .int 1), (5, .int 0), (6, .int (nI (((lsF L 255) + 1) / 2)))]) rfl rfl ?_
          refine WX.s1 rfl rfl ?_
          refine WX.if_ rfl (fun c_195 => ?_) (fun c_195 => ?_)
          · skip
            have n_195 : (((lsF L 255) + 1) / 2) ≤ 0 := (nI_leI (a := ((lsF L 255) + 1) / 2) (b := 0) (by omega) (by omega)).mp c_195
            refine WX.s1 rfl rfl ?_
            refine WX.if_ rfl (fun c_220 => ?_) (fun c_220 => absurd (by decide) c_220)
            clear c_220
            refine WX.s1 rfl rfl ?_
            refine WX.if_ rfl (fun c_242 => ?_) (fun c_242 => absurd (by decide) c_242)
            clear c_242
            refine WX.s1 rfl rfl ?_
            have hno : dsY (wtL L t) = none := by unfold dsY; rw [hwl, if_neg (by omega), if_pos (by omega)]
            exact WX.ret3 rfl (by decide) (kkN hno hL FR_hL (DX.of hbo F_hL_67 F_hL_68 F_hL_69 P_hL_sh P_hL_be.toE P_hL_ot) P_hL_told)
          · skip
            have n_195 : 0 < (((lsF L 255) + 1) / 2) := Nat.lt_of_not_le (fun zz_ => c_195 ((nI_leI (a := ((lsF L 255) + 1) / 2) (b := 0) (by omega) (by omega)).mpr zz_))
            refine WX.s1 rfl rfl ?_
            refine WX.if_ rfl (fun c_200 => ?_) (fun c_200 => absurd (by decide) c_200)
            clear c_200
            refine WX.s1 rfl rfl ?_
            refine WX.s1 rfl rfl ?_
            refine WX.s1 rfl rfl ?_
            have hyes : dsY (wtL L t) = some (dirY (wtL L t)) := by unfold dsY; rw [hwl]; exact if_pos (by omega)
            rw [← hwl]
            refine WX.callC (vs := [.ref 67, .ref 106, .int (nI (wtL L t).length)]) rfl rfl rfl (Nat.le_of_ble_eq_true rfl) (rcv_ok (by omega) F_hL_67) ?_
            refine x_dDir hn (by omega) (by decide) (by decide) (by omega) hwle hw9 F_hL_67 F_hL_68 P_hL_told (fun h213 fr213 P_h213_told => ?_)
            have F_h213_67 : h213 67 = .inr (2, [.ref 68, .ref 69, .ref 70, .ref b2, .ref o2]) := (fr213 _ (by first | decide | omega)).trans F_hL_67
            have F_h213_68 : h213 68 = .inl (1, 256, .inl w2) := (fr213 _ (by first | decide | omega)).trans F_hL_68
            have F_h213_69 : h213 69 = .inl (1, 12, .inl c2) := (fr213 _ (by first | decide | omega)).trans F_hL_69
            have F_h213_b2 : h213 b2 = .inr (7, [.ref (b2 + 1), .int (nI nb), .int 0, .long 0, .int 0]) := (fr213 _ (by omega)).trans F_hL_b2
            have P_h213_sh : ShX h213 70 11 64 := P_hL_sh.zfr fr213 (fun j h1 h2 => by omega)
            have P_h213_be : RowIs h213 b2 512 (some (bsY (wtL L t))) 0 0 := P_hL_be.zfr fr213 (by omega) (by omega)
            have P_h213_ot : RowE h213 o2 512 := P_hL_ot.zfr fr213 (by omega) (by omega)
            have FR_h213 : Fr h h213 (fun j => (67 ≤ j ∧ j ≤ 80) ∨ j = 106 ∨ j = 107) := FR_hL.zsub fr213 (fun j hj => by first | exact hj | exact Or.inl hj | exact Or.inr hj | omega)
            show WX _ _ _ 216 [(0, .ref 67), (1, .ref 96), (2, .ref 106), (3, .int (nI (wtL L t).length)), (4, .int 1), (5, .int 0), (6, .int (nI (((wtL L t).length + 1) / 2)))] [] (n, s, h213)
            rw [bputs_len _ _ (by rw [dirY_len, hwl]; show 0 + _ ≤ 256; omega), List.nil_append] at P_h213_told
            refine WX.s1 rfl rfl ?_
            exact WX.ret3 rfl (by decide) (kkS _ hyes h213 FR_h213 (DX.of hbo F_h213_67 F_h213_68 F_h213_69 P_h213_sh P_h213_be.toE P_h213_ot) P_h213_told (by rw [dirY_len, hwl]; omega))
      · skip
        have n_159 : nb < 128 := Nat.lt_of_not_le (fun zz_ => c_159 ((nI_leI (a := 128) (b := nb) (by omega) (by omega)).mpr zz_))
        refine WX.s1 rfl rfl ?_
        refine WX.get1 (fs := [.ref 68, .ref 69, .ref 70, .ref b2, .ref o2]) rfl (by omega) (F_hL_67) rfl ?_
        refine WX.get1 (fs := [.ref (b2 + 1), .int (nI nb), .int 0, .long 0, .int 0]) rfl (by omega) (F_hL_b2) rfl ?_
        refine WX.s1 rfl rfl ?_
        refine WX.s1 (L' := [(0, .ref 67), (1, .ref 96), (2, .ref 106), (3, .int (nI (lsF L 255))), (4, .int 1), (5, .int (nI nb))]) rfl rfl ?_
        refine WX.s1 rfl rfl ?_
        refine WX.s1 rfl rfl ?_
        refine WX.icmp rfl (fun c_179 => ?_) (fun c_179 => ?_)
        · skip
          have n_179 : 128 < (lsF L 255) := (nI_ltI (a := 128) (b := lsF L 255) (by omega) (by omega)).mp c_179
          refine WX.s1 rfl rfl ?_
          refine WX.s1 (L' := [(0, .ref 67), (1, .ref 96), (2, .ref 106), (3, .int (nI (lsF L 255))), (4, .int 1), (5, .int (nI nb)), (6, .int 0)]) rfl rfl ?_
          refine WX.s1 rfl rfl ?_
          refine WX.if_ rfl (fun c_195 => ?_) (fun c_195 => absurd (by decide) c_195)
          clear c_195
          refine WX.s1 rfl rfl ?_
          refine WX.if_ rfl (fun c_220 => absurd c_220 (fun zz_ => absurd ((nI_leI (a := nb) (b := 0) (by omega) (by omega)).mp zz_) (Nat.not_le.mpr (by omega)))) (fun c_220 => ?_)
          clear c_220
          refine WX.s1 rfl rfl ?_
          refine WX.s1 rfl rfl ?_
          refine WX.callC (vs := [.ref 106, .int (nI nb)]) rfl rfl rfl (Nat.le_of_ble_eq_true rfl) (P_hL_told.rcv (by omega)) ?_
          refine w_putB (by omega) P_hL_told (by decide) (fun h226 fr226 P_h226_told => ?_)
          have F_h226_67 : h226 67 = .inr (2, [.ref 68, .ref 69, .ref 70, .ref b2, .ref o2]) := (fr226 _ (by first | decide | omega)).trans F_hL_67
          have F_h226_68 : h226 68 = .inl (1, 256, .inl w2) := (fr226 _ (by first | decide | omega)).trans F_hL_68
          have F_h226_69 : h226 69 = .inl (1, 12, .inl c2) := (fr226 _ (by first | decide | omega)).trans F_hL_69
          have F_h226_b2 : h226 b2 = .inr (7, [.ref (b2 + 1), .int (nI nb), .int 0, .long 0, .int 0]) := (fr226 _ (by omega)).trans F_hL_b2
          have P_h226_sh : ShX h226 70 11 64 := P_hL_sh.zfr fr226 (fun j h1 h2 => by omega)
          have P_h226_be : RowIs h226 b2 512 (some (bsY (wtL L t))) 0 0 := P_hL_be.zfr fr226 (by omega) (by omega)
          have P_h226_ot : RowE h226 o2 512 := P_hL_ot.zfr fr226 (by omega) (by omega)
          have FR_h226 : Fr h h226 (fun j => (67 ≤ j ∧ j ≤ 80) ∨ j = 106 ∨ j = 107) := FR_hL.zsub fr226 (fun j hj => by first | exact hj | exact Or.inl hj | exact Or.inr hj | omega)
          show WX _ _ _ 229 [(0, .ref 67), (1, .ref 96), (2, .ref 106), (3, .int (nI (lsF L 255))), (4, .int 1), (5, .int (nI nb)), (6, .int 0)] [] (n, s, h226)
          refine WX.s1 rfl rfl ?_
          refine WX.s1 rfl rfl ?_
          refine WX.get1 (fs := [.ref 68, .ref 69, .ref 70, .ref b2, .ref o2]) rfl (by omega) (F_h226_67) rfl ?_
          refine WX.s1 rfl rfl ?_
          refine WX.s1 rfl rfl ?_
          refine WX.callC (vs := [.ref 106, .ref b2, .int 0, .int (nI nb)]) rfl rfl rfl (Nat.le_of_ble_eq_true rfl) (P_h226_told.rcv (by omega)) ?_
          refine w_putRowL (by omega) P_h226_told (by decide) (by omega) (by omega) (by omega) P_h226_be (Nat.zero_le _) (by omega) (by decide) (fun h237 fr237 P_h237_told => ?_)
          have F_h237_67 : h237 67 = .inr (2, [.ref 68, .ref 69, .ref 70, .ref b2, .ref o2]) := (fr237 _ (by first | decide | omega)).trans F_h226_67
          have F_h237_68 : h237 68 = .inl (1, 256, .inl w2) := (fr237 _ (by first | decide | omega)).trans F_h226_68
          have F_h237_69 : h237 69 = .inl (1, 12, .inl c2) := (fr237 _ (by first | decide | omega)).trans F_h226_69
          have F_h237_b2 : h237 b2 = .inr (7, [.ref (b2 + 1), .int (nI nb), .int 0, .long 0, .int 0]) := (fr237 _ (by omega)).trans F_h226_b2
          have P_h237_sh : ShX h237 70 11 64 := P_h226_sh.zfr fr237 (fun j h1 h2 => by omega)
          have P_h237_be : RowIs h237 b2 512 (some (bsY (wtL L t))) 0 0 := P_h226_be.zfr fr237 (by omega) (by omega)
          have P_h237_ot : RowE h237 o2 512 := P_h226_ot.zfr fr237 (by omega) (by omega)
          have FR_h237 : Fr h h237 (fun j => (67 ≤ j ∧ j ≤ 80) ∨ j = 106 ∨ j = 107) := FR_h226.zsub fr237 (fun j hj => by first | exact hj | exact Or.inl hj | exact Or.inr hj | omega)
          show WX _ _ _ 240 [(0, .ref 67), (1, .ref 96), (2, .ref 106), (3, .int (nI (lsF L 255))), (4, .int 1), (5, .int (nI nb)), (6, .int 0)] [] (n, s, h237)
          refine WX.s1 rfl rfl ?_
          refine WX.if_ rfl (fun c_242 => absurd c_242 (fun zz_ => absurd ((nI_leI (a := nb) (b := 0) (by omega) (by omega)).mp zz_) (Nat.not_le.mpr (by omega)))) (fun c_242 => ?_)
          clear c_242
          refine WX.s1 rfl rfl ?_
          refine WX.s1 rfl rfl ?_
          have hyes : dsY (wtL L t) = some (bsN (wtL L t) :: bsY (wtL L t)) := by unfold dsY; rw [hwl, if_neg (by omega), if_neg (by omega)]
          have hrow : RowIs h237 106 256 (some (bsN (wtL L t) :: bsY (wtL L t))) 0 0 := by
            rw [hnb, slice_all, ← hnb, byt_nI, Nat.mod_eq_of_lt (show nb < 256 by omega)] at P_h237_told
            have e1 : bput 256 (some []) nb = some [nb] := rfl
            rw [e1, bputs_len _ _ (by show 1 + _ ≤ 256; omega)] at P_h237_told
            rw [show bsN (wtL L t) = nb by omega]
            exact P_h237_told
          exact WX.ret3 rfl (by decide) (kkS _ hyes h237 FR_h237 (DX.of hbo F_h237_67 F_h237_68 F_h237_69 P_h237_sh P_h237_be.toE P_h237_ot) hrow (by show (bsY (wtL L t)).length + 1 ≤ 129; omega))
        · skip
          have n_179 : (lsF L 255) ≤ 128 := Nat.le_of_not_lt (fun zz_ => c_179 ((nI_ltI (a := 128) (b := lsF L 255) (by omega) (by omega)).mpr zz_))
          refine WX.s1 rfl rfl ?_
          refine WX.s1 rfl rfl ?_
          refine WX.s1 (S' := [.int ((nI (lsF L 255)) + 1)]) rfl rfl ?_
          rw [show ((nI (lsF L 255)) + 1) = nI (lsF L 255 + 1) from nI_add (lsF L 255) 1]
          refine WX.s1 rfl rfl ?_
          refine WX.div rfl (by decide) ?_
          rw [show nI ((lsF L 255) + 1) / 2 = nI (((lsF L 255) + 1) / 2) from pk_div (by omega) (by decide) (by decide)]
          refine WX.s1 rfl rfl ?_
          refine WX.s1 (L' := [(0, .ref 67), (1, .ref 96), (2, .ref 106), (3, .int (nI (lsF L 255))), (4, .int 1), (5, .int (nI nb)), (6, .int (nI (((lsF L 255) + 1) / 2)))]) rfl rfl ?_
          refine WX.s1 rfl rfl ?_
          refine WX.if_ rfl (fun c_195 => ?_) (fun c_195 => ?_)
          · skip
            have n_195 : (((lsF L 255) + 1) / 2) ≤ 0 := (nI_leI (a := ((lsF L 255) + 1) / 2) (b := 0) (by omega) (by omega)).mp c_195
            refine WX.s1 rfl rfl ?_
            refine WX.if_ rfl (fun c_220 => absurd c_220 (fun zz_ => absurd ((nI_leI (a := nb) (b := 0) (by omega) (by omega)).mp zz_) (Nat.not_le.mpr (by omega)))) (fun c_220 => ?_)
            clear c_220
            refine WX.s1 rfl rfl ?_
            refine WX.s1 rfl rfl ?_
            refine WX.callC (vs := [.ref 106, .int (nI nb)]) rfl rfl rfl (Nat.le_of_ble_eq_true rfl) (P_hL_told.rcv (by omega)) ?_
            refine w_putB (by omega) P_hL_told (by decide) (fun h226 fr226 P_h226_told => ?_)
            have F_h226_67 : h226 67 = .inr (2, [.ref 68, .ref 69, .ref 70, .ref b2, .ref o2]) := (fr226 _ (by first | decide | omega)).trans F_hL_67
            have F_h226_68 : h226 68 = .inl (1, 256, .inl w2) := (fr226 _ (by first | decide | omega)).trans F_hL_68
            have F_h226_69 : h226 69 = .inl (1, 12, .inl c2) := (fr226 _ (by first | decide | omega)).trans F_hL_69
            have F_h226_b2 : h226 b2 = .inr (7, [.ref (b2 + 1), .int (nI nb), .int 0, .long 0, .int 0]) := (fr226 _ (by omega)).trans F_hL_b2
            have P_h226_sh : ShX h226 70 11 64 := P_hL_sh.zfr fr226 (fun j h1 h2 => by omega)
            have P_h226_be : RowIs h226 b2 512 (some (bsY (wtL L t))) 0 0 := P_hL_be.zfr fr226 (by omega) (by omega)
            have P_h226_ot : RowE h226 o2 512 := P_hL_ot.zfr fr226 (by omega) (by omega)
            have FR_h226 : Fr h h226 (fun j => (67 ≤ j ∧ j ≤ 80) ∨ j = 106 ∨ j = 107) := FR_hL.zsub fr226 (fun j hj => by first | exact hj | exact Or.inl hj | exact Or.inr hj | omega)
            show WX _ _ _ 229 [(0, .ref 67), (1, .ref 96), (2, .ref 106), (3, .int (nI (lsF L 255))), (4, .int 1), (5, .int (nI nb)), (6, .int (nI (((lsF L 255) + 1) / 2)))] [] (n, s, h226)
            refine WX.s1 rfl rfl ?_
            refine WX.s1 rfl rfl ?_
            refine WX.get1 (fs := [.ref 68, .ref 69, .ref 70, .ref b2, .ref o2]) rfl (by omega) (F_h226_67) rfl ?_
            refine WX.s1 rfl rfl ?_
            refine WX.s1 rfl rfl ?_
            refine WX.callC (vs := [.ref 106, .ref b2, .int 0, .int (nI nb)]) rfl rfl rfl (Nat.le_of_ble_eq_true rfl) (P_h226_told.rcv (by omega)) ?_
            refine w_putRowL (by omega) P_h226_told (by decide) (by omega) (by omega) (by omega) P_h226_be (Nat.zero_le _) (by omega) (by decide) (fun h237 fr237 P_h237_told => ?_)
            have F_h237_67 : h237 67 = .inr (2, [.ref 68, .ref 69, .ref 70, .ref b2, .ref o2]) := (fr237 _ (by first | decide | omega)).trans F_h226_67
            have F_h237_68 : h237 68 = .inl (1, 256, .inl w2) := (fr237 _ (by first | decide | omega)).trans F_h226_68
            have F_h237_69 : h237 69 = .inl (1, 12, .inl c2) := (fr237 _ (by first | decide | omega)).trans F_h226_69
            have F_h237_b2 : h237 b2 = .inr (7, [.ref (b2 + 1), .int (nI nb), .int 0, .long 0, .int 0]) := (fr237 _ (by omega)).trans F_h226_b2
            have P_h237_sh : ShX h237 70 11 64 := P_h226_sh.zfr fr237 (fun j h1 h2 => by omega)
            have P_h237_be : RowIs h237 b2 512 (some (bsY (wtL L t))) 0 0 := P_h226_be.zfr fr237 (by omega) (by omega)
            have P_h237_ot : RowE h237 o2 512 := P_h226_ot.zfr fr237 (by omega) (by omega)
            have FR_h237 : Fr h h237 (fun j => (67 ≤ j ∧ j ≤ 80) ∨ j = 106 ∨ j = 107) := FR_h226.zsub fr237 (fun j hj => by first | exact hj | exact Or.inl hj | exact Or.inr hj | omega)
            show WX _ _ _ 240 [(0, .ref 67), (1, .ref 96), (2, .ref 106), (3, .int (nI (lsF L 255))), (4, .int 1), (5, .int (nI nb)), (6, .int (nI (((lsF L 255) + 1) / 2)))] [] (n, s, h237)
            refine WX.s1 rfl rfl ?_
            refine WX.if_ rfl (fun c_242 => absurd c_242 (fun zz_ => absurd ((nI_leI (a := nb) (b := 0) (by omega) (by omega)).mp zz_) (Nat.not_le.mpr (by omega)))) (fun c_242 => ?_)
            clear c_242
            refine WX.s1 rfl rfl ?_
            refine WX.s1 rfl rfl ?_
            have hyes : dsY (wtL L t) = some (bsN (wtL L t) :: bsY (wtL L t)) := by unfold dsY; rw [hwl, if_neg (by omega), if_neg (by omega)]
            have hrow : RowIs h237 106 256 (some (bsN (wtL L t) :: bsY (wtL L t))) 0 0 := by
              rw [hnb, slice_all, ← hnb, byt_nI, Nat.mod_eq_of_lt (show nb < 256 by omega)] at P_h237_told
              have e1 : bput 256 (some []) nb = some [nb] := rfl
              rw [e1, bputs_len _ _ (by show 1 + _ ≤ 256; omega)] at P_h237_told
              rw [show bsN (wtL L t) = nb by omega]
              exact P_h237_told
            exact WX.ret3 rfl (by decide) (kkS _ hyes h237 FR_h237 (DX.of hbo F_h237_67 F_h237_68 F_h237_69 P_h237_sh P_h237_be.toE P_h237_ot) hrow (by show (bsY (wtL L t)).length + 1 ≤ 129; omega))
          · skip
            have n_195 : 0 < (((lsF L 255) + 1) / 2) := Nat.lt_of_not_le (fun zz_ => c_195 ((nI_leI (a := ((lsF L 255) + 1) / 2) (b := 0) (by omega) (by omega)).mpr zz_))
            refine WX.s1 rfl rfl ?_
            refine WX.if_ rfl (fun c_200 => ?_) (fun c_200 => ?_)
            · skip
              have n_200 : nb = 0 := (nI_eq (a := nb) (b := 0) (by omega) (by omega)).mp c_200
              refine WX.s1 rfl rfl ?_
              refine WX.s1 rfl rfl ?_
              refine WX.s1 rfl rfl ?_
              have hyes : dsY (wtL L t) = some (dirY (wtL L t)) := by unfold dsY; rw [hwl]; exact if_pos (by omega)
              rw [← hwl]
              refine WX.callC (vs := [.ref 67, .ref 106, .int (nI (wtL L t).length)]) rfl rfl rfl (Nat.le_of_ble_eq_true rfl) (rcv_ok (by omega) F_hL_67) ?_
              refine x_dDir hn (by omega) (by decide) (by decide) (by omega) hwle hw9 F_hL_67 F_hL_68 P_hL_told (fun h213 fr213 P_h213_told => ?_)
              have F_h213_67 : h213 67 = .inr (2, [.ref 68, .ref 69, .ref 70, .ref b2, .ref o2]) := (fr213 _ (by first | decide | omega)).trans F_hL_67
              have F_h213_68 : h213 68 = .inl (1, 256, .inl w2) := (fr213 _ (by first | decide | omega)).trans F_hL_68
              have F_h213_69 : h213 69 = .inl (1, 12, .inl c2) := (fr213 _ (by first | decide | omega)).trans F_hL_69
              have F_h213_b2 : h213 b2 = .inr (7, [.ref (b2 + 1), .int (nI nb), .int 0, .long 0, .int 0]) := (fr213 _ (by omega)).trans F_hL_b2
              have P_h213_sh : ShX h213 70 11 64 := P_hL_sh.zfr fr213 (fun j h1 h2 => by omega)
              have P_h213_be : RowIs h213 b2 512 (some (bsY (wtL L t))) 0 0 := P_hL_be.zfr fr213 (by omega) (by omega)
              have P_h213_ot : RowE h213 o2 512 := P_hL_ot.zfr fr213 (by omega) (by omega)
              have FR_h213 : Fr h h213 (fun j => (67 ≤ j ∧ j ≤ 80) ∨ j = 106 ∨ j = 107) := FR_hL.zsub fr213 (fun j hj => by first | exact hj | exact Or.inl hj | exact Or.inr hj | omega)
              show WX _ _ _ 216 [(0, .ref 67), (1, .ref 96), (2, .ref 106), (3, .int (nI (wtL L t).length)), (4, .int 1), (5, .int (nI nb)), (6, .int (nI (((wtL L t).length + 1) / 2)))] [] (n, s, h213)
              rw [bputs_len _ _ (by rw [dirY_len, hwl]; show 0 + _ ≤ 256; omega), List.nil_append] at P_h213_told
              refine WX.s1 rfl rfl ?_
              exact WX.ret3 rfl (by decide) (kkS _ hyes h213 FR_h213 (DX.of hbo F_h213_67 F_h213_68 F_h213_69 P_h213_sh P_h213_be.toE P_h213_ot) P_h213_told (by rw [dirY_len, hwl]; omega))
            · skip
              have n_200 : ¬ nb = 0 := fun zz_ => c_200 ((nI_eq (a := nb) (b := 0) (by omega) (by omega)).mpr zz_)
              refine WX.s1 rfl rfl ?_
              refine WX.s1 rfl rfl ?_
              refine WX.icmp rfl (fun c_207 => ?_) (fun c_207 => ?_)
              · skip
                have n_207 : nb < (((lsF L 255) + 1) / 2) := (nI_ltI (a := nb) (b := ((lsF L 255) + 1) / 2) (by omega) (by omega)).mp c_207
                refine WX.s1 rfl rfl ?_
                refine WX.if_ rfl (fun c_220 => absurd c_220 (fun zz_ => absurd ((nI_leI (a := nb) (b := 0) (by omega) (by omega)).mp zz_) (Nat.not_le.mpr (by omega)))) (fun c_220 => ?_)
                clear c_220
                refine WX.s1 rfl rfl ?_
                refine WX.s1 rfl rfl ?_
                refine WX.callC (vs := [.ref 106, .int (nI nb)]) rfl rfl rfl (Nat.le_of_ble_eq_true rfl) (P_hL_told.rcv (by omega)) ?_
                refine w_putB (by omega) P_hL_told (by decide) (fun h226 fr226 P_h226_told => ?_)
                have F_h226_67 : h226 67 = .inr (2, [.ref 68, .ref 69, .ref 70, .ref b2, .ref o2]) := (fr226 _ (by first | decide | omega)).trans F_hL_67
                have F_h226_68 : h226 68 = .inl (1, 256, .inl w2) := (fr226 _ (by first | decide | omega)).trans F_hL_68
                have F_h226_69 : h226 69 = .inl (1, 12, .inl c2) := (fr226 _ (by first | decide | omega)).trans F_hL_69
                have F_h226_b2 : h226 b2 = .inr (7, [.ref (b2 + 1), .int (nI nb), .int 0, .long 0, .int 0]) := (fr226 _ (by omega)).trans F_hL_b2
                have P_h226_sh : ShX h226 70 11 64 := P_hL_sh.zfr fr226 (fun j h1 h2 => by omega)
                have P_h226_be : RowIs h226 b2 512 (some (bsY (wtL L t))) 0 0 := P_hL_be.zfr fr226 (by omega) (by omega)
                have P_h226_ot : RowE h226 o2 512 := P_hL_ot.zfr fr226 (by omega) (by omega)
                have FR_h226 : Fr h h226 (fun j => (67 ≤ j ∧ j ≤ 80) ∨ j = 106 ∨ j = 107) := FR_hL.zsub fr226 (fun j hj => by first | exact hj | exact Or.inl hj | exact Or.inr hj | omega)
                show WX _ _ _ 229 [(0, .ref 67), (1, .ref 96), (2, .ref 106), (3, .int (nI (lsF L 255))), (4, .int 1), (5, .int (nI nb)), (6, .int (nI (((lsF L 255) + 1) / 2)))] [] (n, s, h226)
                refine WX.s1 rfl rfl ?_
                refine WX.s1 rfl rfl ?_
                refine WX.get1 (fs := [.ref 68, .ref 69, .ref 70, .ref b2, .ref o2]) rfl (by omega) (F_h226_67) rfl ?_
                refine WX.s1 rfl rfl ?_
                refine WX.s1 rfl rfl ?_
                refine WX.callC (vs := [.ref 106, .ref b2, .int 0, .int (nI nb)]) rfl rfl rfl (Nat.le_of_ble_eq_true rfl) (P_h226_told.rcv (by omega)) ?_
                refine w_putRowL (by omega) P_h226_told (by decide) (by omega) (by omega) (by omega) P_h226_be (Nat.zero_le _) (by omega) (by decide) (fun h237 fr237 P_h237_told => ?_)
                have F_h237_67 : h237 67 = .inr (2, [.ref 68, .ref 69, .ref 70, .ref b2, .ref o2]) := (fr237 _ (by first | decide | omega)).trans F_h226_67
                have F_h237_68 : h237 68 = .inl (1, 256, .inl w2) := (fr237 _ (by first | decide | omega)).trans F_h226_68
                have F_h237_69 : h237 69 = .inl (1, 12, .inl c2) := (fr237 _ (by first | decide | omega)).trans F_h226_69
                have F_h237_b2 : h237 b2 = .inr (7, [.ref (b2 + 1), .int (nI nb), .int 0, .long 0, .int 0]) := (fr237 _ (by omega)).trans F_h226_b2
                have P_h237_sh : ShX h237 70 11 64 := P_h226_sh.zfr fr237 (fun j h1 h2 => by omega)
                have P_h237_be : RowIs h237 b2 512 (some (bsY (wtL L t))) 0 0 := P_h226_be.zfr fr237 (by omega) (by omega)
                have P_h237_ot : RowE h237 o2 512 := P_h226_ot.zfr fr237 (by omega) (by omega)
                have FR_h237 : Fr h h237 (fun j => (67 ≤ j ∧ j ≤ 80) ∨ j = 106 ∨ j = 107) := FR_h226.zsub fr237 (fun j hj => by first | exact hj | exact Or.inl hj | exact Or.inr hj | omega)
                show WX _ _ _ 240 [(0, .ref 67), (1, .ref 96), (2, .ref 106), (3, .int (nI (lsF L 255))), (4, .int 1), (5, .int (nI nb)), (6, .int (nI (((lsF L 255) + 1) / 2)))] [] (n, s, h237)
                refine WX.s1 rfl rfl ?_
                refine WX.if_ rfl (fun c_242 => absurd c_242 (fun zz_ => absurd ((nI_leI (a := nb) (b := 0) (by omega) (by omega)).mp zz_) (Nat.not_le.mpr (by omega)))) (fun c_242 => ?_)
                clear c_242
                refine WX.s1 rfl rfl ?_
                refine WX.s1 rfl rfl ?_
                have hyes : dsY (wtL L t) = some (bsN (wtL L t) :: bsY (wtL L t)) := by unfold dsY; rw [hwl, if_neg (by omega), if_neg (by omega)]
                have hrow : RowIs h237 106 256 (some (bsN (wtL L t) :: bsY (wtL L t))) 0 0 := by
                  rw [hnb, slice_all, ← hnb, byt_nI, Nat.mod_eq_of_lt (show nb < 256 by omega)] at P_h237_told
                  have e1 : bput 256 (some []) nb = some [nb] := rfl
                  rw [e1, bputs_len _ _ (by show 1 + _ ≤ 256; omega)] at P_h237_told
                  rw [show bsN (wtL L t) = nb by omega]
                  exact P_h237_told
                exact WX.ret3 rfl (by decide) (kkS _ hyes h237 FR_h237 (DX.of hbo F_h237_67 F_h237_68 F_h237_69 P_h237_sh P_h237_be.toE P_h237_ot) hrow (by show (bsY (wtL L t)).length + 1 ≤ 129; omega))
              · skip
                have n_207 : (((lsF L 255) + 1) / 2) ≤ nb := Nat.le_of_not_lt (fun zz_ => c_207 ((nI_ltI (a := nb) (b := ((lsF L 255) + 1) / 2) (by omega) (by omega)).mpr zz_))
                refine WX.s1 rfl rfl ?_
                refine WX.s1 rfl rfl ?_
                refine WX.s1 rfl rfl ?_
                have hyes : dsY (wtL L t) = some (dirY (wtL L t)) := by unfold dsY; rw [hwl]; exact if_pos (by omega)
                rw [← hwl]
                refine WX.callC (vs := [.ref 67, .ref 106, .int (nI (wtL L t).length)]) rfl rfl rfl (Nat.le_of_ble_eq_true rfl) (rcv_ok (by omega) F_hL_67) ?_
                refine x_dDir hn (by omega) (by decide) (by decide) (by omega) hwle hw9 F_hL_67 F_hL_68 P_hL_told (fun h213 fr213 P_h213_told => ?_)
                have F_h213_67 : h213 67 = .inr (2, [.ref 68, .ref 69, .ref 70, .ref b2, .ref o2]) := (fr213 _ (by first | decide | omega)).trans F_hL_67
                have F_h213_68 : h213 68 = .inl (1, 256, .inl w2) := (fr213 _ (by first | decide | omega)).trans F_hL_68
                have F_h213_69 : h213 69 = .inl (1, 12, .inl c2) := (fr213 _ (by first | decide | omega)).trans F_hL_69
                have F_h213_b2 : h213 b2 = .inr (7, [.ref (b2 + 1), .int (nI nb), .int 0, .long 0, .int 0]) := (fr213 _ (by omega)).trans F_hL_b2
                have P_h213_sh : ShX h213 70 11 64 := P_hL_sh.zfr fr213 (fun j h1 h2 => by omega)
                have P_h213_be : RowIs h213 b2 512 (some (bsY (wtL L t))) 0 0 := P_hL_be.zfr fr213 (by omega) (by omega)
                have P_h213_ot : RowE h213 o2 512 := P_hL_ot.zfr fr213 (by omega) (by omega)
                have FR_h213 : Fr h h213 (fun j => (67 ≤ j ∧ j ≤ 80) ∨ j = 106 ∨ j = 107) := FR_hL.zsub fr213 (fun j hj => by first | exact hj | exact Or.inl hj | exact Or.inr hj | omega)
                show WX _ _ _ 216 [(0, .ref 67), (1, .ref 96), (2, .ref 106), (3, .int (nI (wtL L t).length)), (4, .int 1), (5, .int (nI nb)), (6, .int (nI (((wtL L t).length + 1) / 2)))] [] (n, s, h213)
                rw [bputs_len _ _ (by rw [dirY_len, hwl]; show 0 + _ ≤ 256; omega), List.nil_append] at P_h213_told
                refine WX.s1 rfl rfl ?_
                exact WX.ret3 rfl (by decide) (kkS _ hyes h213 FR_h213 (DX.of hbo F_h213_67 F_h213_68 F_h213_69 P_h213_sh P_h213_be.toE P_h213_ot) P_h213_told (by rw [dirY_len, hwl]; omega))
    have hcb : (cdF (wtL L t)).1 ((wtL L t).getD 0 0) ≤ (lsF L 255) := by rw [← hwl]; exact cd_all_le _
    have hlt9 := hkd.mpr hv.1
    refine WX.s1 rfl rfl ?_
    refine WX.s1 rfl rfl ?_
    refine WX.icmp rfl (fun c_8 => absurd c_8 (fun zz_ => absurd ((nI_ltI (a := lsF L 255) (b := 2) (by omega) (by omega)).mp zz_) (Nat.not_lt.mpr (by omega)))) (fun c_8 => ?_)
    clear c_8
    refine WX.s1 rfl rfl ?_
    refine WX.get1 (fs := [.ref 68, .ref 69, .ref 70, .ref be, .ref ot]) rfl (by omega) (F_h2_67) rfl ?_
    refine WX.s1 rfl rfl ?_
    refine WX.get1 (fs := [.ref 68, .ref 69, .ref 70, .ref be, .ref ot]) rfl (by omega) (F_h2_67) rfl ?_
    refine WX.s1 rfl rfl ?_
    refine WX.iald1 rfl (Or.inl (by omega)) (F_h2_68) (by unfold vp_in; decide) ?_
    rw [show Int32.toNatClampNeg 0 = 0 from rfl, hw 0 (by omega)]
    refine WX.iald1 rfl (Or.inl (by omega)) (F_h2_69) (vp_in_nI (N := 12) (by omega) (by decide)) ?_
    rw [nI_clamp (by omega), hc _ (by omega)]
    refine WX.s1 rfl rfl ?_
    refine WX.icmp rfl (fun c_23 => absurd c_23 (fun zz_ => absurd ((nI_leI (a := lsF L 255) (b := (cdF (wtL L t)).1 ((wtL L t).getD 0 0)) (by omega) (by omega)).mp zz_) (Nat.not_le.mpr (by omega)))) (fun c_23 => ?_)
    clear c_23
    refine WX.s1 rfl rfl ?_
    refine WX.s1 rfl rfl ?_
    refine WX.s1 (L' := [(0, .ref 67), (1, .ref 96), (2, .ref 106), (3, .int (nI (lsF L 255))), (4, .int 1)]) rfl rfl ?_
    refine WX.s1 rfl rfl ?_
    refine WX.s1 (L' := [(0, .ref 67), (1, .ref 96), (2, .ref 106), (3, .int (nI (lsF L 255))), (4, .int 1), (5, .int 5)]) rfl rfl ?_
    refine WX.s1 rfl rfl ?_
    refine WX.if_ rfl (fun c_38 => absurd c_38 (by decide)) (fun c_38 => ?_)
    clear c_38
    refine WX.s1 rfl rfl ?_
    refine WX.s1 rfl rfl ?_
    refine WX.icmp rfl (fun c_45 => absurd c_45 (by decide)) (fun c_45 => ?_)
    clear c_45
    refine WX.s1 rfl rfl ?_
    refine WX.get1 (fs := [.ref 68, .ref 69, .ref 70, .ref be, .ref ot]) rfl (by omega) (F_h2_67) rfl ?_
    refine WX.s1 rfl rfl ?_
    refine WX.get1 (fs := [.ref 68, .ref 69, .ref 70, .ref be, .ref ot]) rfl (by omega) (F_h2_67) rfl ?_
    refine WX.s1 rfl rfl ?_
    obtain ⟨eW5, eS5, eN5⟩ := wU_l hsy (show 11 < 64 by decide) hwle (ws_d hws (o := 5) (by decide))
    have hd5 := ws_d hws (o := 5) (by decide)
    refine WX.callC (vs := [.ref 70, .ref 69, .int (nI 5)]) rfl rfl rfl (Nat.le_of_ble_eq_true rfl) (P_h2_sh.rcv (by omega)) ?_
    refine xt_weigh (k := 70) (l := 11) (M := 64) (o := 5) (by omega) (by omega) (by omega) (by decide) (by decide) hc9 (by omega) (by omega) (by omega) P_h2_sh F_h2_69 (fun h58_5 fr58_5 P_h58_5_sh => ?_)
    have F_h58_5_67 : h58_5 67 = .inr (2, [.ref 68, .ref 69, .ref 70, .ref be, .ref ot]) := (fr58_5 _ (by first | decide | omega)).trans F_h2_67
    have F_h58_5_68 : h58_5 68 = .inl (1, 256, .inl w2) := (fr58_5 _ (by first | decide | omega)).trans F_h2_68
    have F_h58_5_69 : h58_5 69 = .inl (1, 12, .inl c2) := (fr58_5 _ (by first | decide | omega)).trans F_h2_69
    have P_h58_5_co : CoT h58_5 96 L t := P_h2_co.zfr fr58_5 (fun j h1 h2 => by omega)
    have P_h58_5_told : RowIs h58_5 106 256 (some []) 0 0 := P_h2_told.zfr fr58_5 (by first | decide | omega) (by first | decide | omega)
    have P_h58_5_be : RowE h58_5 be 512 := P_h2_be.zfr fr58_5 (by omega) (by omega)
    have P_h58_5_ot : RowE h58_5 ot 512 := P_h2_ot.zfr fr58_5 (by omega) (by omega)
    have FR_h58_5 : Fr h h58_5 (fun j => (67 ≤ j ∧ j ≤ 80) ∨ j = 106 ∨ j = 107) := FR_h2.zsub fr58_5 (fun j hj => by first | exact hj | exact Or.inl hj | exact Or.inr hj | omega)
    show WX _ _ _ 61 [(0, .ref 67), (1, .ref 96), (2, .ref 106), (3, .int (nI (lsF L 255))), (4, .int 1), (5, .int 5)] [] (n, s, h58_5)
    rw [eW5] at P_h58_5_sh
    refine WX.s1 rfl rfl ?_
    refine WX.get1 (fs := [.ref 68, .ref 69, .ref 70, .ref be, .ref ot]) rfl (by omega) (F_h58_5_67) rfl ?_
    refine WX.callC (vs := [.ref 70]) rfl rfl rfl (Nat.le_of_ble_eq_true rfl) ((P_h58_5_sh.toX).rcv (by omega)) ?_
    refine xt_spread (by omega) (by decide) (Or.inr (by decide)) (by decide) (by decide) (by decide) (ws_S hws (o := 5) (by decide) (by decide)).2.1 P_h58_5_sh (fun h65_5 fr65_5 P_h65_5_sh => ?_)
    have F_h65_5_67 : h65_5 67 = .inr (2, [.ref 68, .ref 69, .ref 70, .ref be, .ref ot]) := (fr65_5 _ (by first | decide | omega)).trans F_h58_5_67
    have F_h65_5_68 : h65_5 68 = .inl (1, 256, .inl w2) := (fr65_5 _ (by first | decide | omega)).trans F_h58_5_68
    have F_h65_5_69 : h65_5 69 = .inl (1, 12, .inl c2) := (fr65_5 _ (by first | decide | omega)).trans F_h58_5_69
    have P_h65_5_co : CoT h65_5 96 L t := P_h58_5_co.zfr fr65_5 (fun j h1 h2 => by omega)
    have P_h65_5_told : RowIs h65_5 106 256 (some []) 0 0 := P_h58_5_told.zfr fr65_5 (by first | decide | omega) (by first | decide | omega)
    have P_h65_5_be : RowE h65_5 be 512 := P_h58_5_be.zfr fr65_5 (by omega) (by omega)
    have P_h65_5_ot : RowE h65_5 ot 512 := P_h58_5_ot.zfr fr65_5 (by omega) (by omega)
    have FR_h65_5 : Fr h h65_5 (fun j => (67 ≤ j ∧ j ≤ 80) ∨ j = 106 ∨ j = 107) := FR_h58_5.zsub fr65_5 (fun j hj => by first | exact hj | exact Or.inl hj | exact Or.inr hj | omega)
    show WX _ _ _ 68 [(0, .ref 67), (1, .ref 96), (2, .ref 106), (3, .int (nI (lsF L 255))), (4, .int 1), (5, .int 5)] [] (n, s, h65_5)
    refine WX.s1 rfl rfl ?_
    refine WX.get1 (fs := [.ref 68, .ref 69, .ref 70, .ref be, .ref ot]) rfl (by omega) (F_h65_5_67) rfl ?_
    refine WX.callC (vs := [.ref ot]) rfl rfl rfl (Nat.le_of_ble_eq_true rfl) (P_h65_5_ot.rcv (by omega)) ?_
    refine w_dropE (by omega) P_h65_5_ot (fun h72_5 fr72_5 P_h72_5_ot => ?_)
    have F_h72_5_67 : h72_5 67 = .inr (2, [.ref 68, .ref 69, .ref 70, .ref be, .ref ot]) := (fr72_5 _ (by first | decide | omega)).trans F_h65_5_67
    have F_h72_5_68 : h72_5 68 = .inl (1, 256, .inl w2) := (fr72_5 _ (by first | decide | omega)).trans F_h65_5_68
    have F_h72_5_69 : h72_5 69 = .inl (1, 12, .inl c2) := (fr72_5 _ (by first | decide | omega)).trans F_h65_5_69
    have P_h72_5_co : CoT h72_5 96 L t := P_h65_5_co.zfr fr72_5 (fun j h1 h2 => by omega)
    have P_h72_5_told : RowIs h72_5 106 256 (some []) 0 0 := P_h65_5_told.zfr fr72_5 (by first | decide | omega) (by first | decide | omega)
    have P_h72_5_sh : ShT h72_5 70 11 64 5 (wsU (wtL L t) 5) := P_h65_5_sh.zfr fr72_5 (fun j h1 h2 => by omega)
    have P_h72_5_be : RowE h72_5 be 512 := P_h65_5_be.zfr fr72_5 (by omega) (by omega)
    have FR_h72_5 : Fr h h72_5 (fun j => (67 ≤ j ∧ j ≤ 80) ∨ j = 106 ∨ j = 107) := FR_h65_5.zsub fr72_5 (fun j hj => by first | exact hj | exact Or.inl hj | exact Or.inr hj | omega)
    show WX _ _ _ 75 [(0, .ref 67), (1, .ref 96), (2, .ref 106), (3, .int (nI (lsF L 255))), (4, .int 1), (5, .int 5)] [] (n, s, h72_5)
    refine WX.s1 rfl rfl ?_
    refine WX.get1 (fs := [.ref 68, .ref 69, .ref 70, .ref be, .ref ot]) rfl (by omega) (F_h72_5_67) rfl ?_
    refine WX.s1 rfl rfl ?_
    refine WX.get1 (fs := [.ref 68, .ref 69, .ref 70, .ref be, .ref ot]) rfl (by omega) (F_h72_5_67) rfl ?_
    refine WX.callC (vs := [.ref 70, .ref ot]) rfl rfl rfl (Nat.le_of_ble_eq_true rfl) (((P_h72_5_sh.toP).toX).rcv (by omega)) ?_
    refine xt_tellL (by omega) (by omega) (by omega) (by decide) (by decide) (by decide) (by decide) (ws_S hws (o := 5) (by decide) (by decide)).2.1 (by omega) P_h72_5_ot P_h72_5_sh.toP (fun h83_5 fr83_5 P_h83_5_ot => ?_)
    have F_h83_5_67 : h83_5 67 = .inr (2, [.ref 68, .ref 69, .ref 70, .ref be, .ref ot]) := (fr83_5 _ (by first | decide | omega)).trans F_h72_5_67
    have F_h83_5_68 : h83_5 68 = .inl (1, 256, .inl w2) := (fr83_5 _ (by first | decide | omega)).trans F_h72_5_68
    have F_h83_5_69 : h83_5 69 = .inl (1, 12, .inl c2) := (fr83_5 _ (by first | decide | omega)).trans F_h72_5_69
    have P_h83_5_co : CoT h83_5 96 L t := P_h72_5_co.zfr fr83_5 (fun j h1 h2 => by omega)
    have P_h83_5_told : RowIs h83_5 106 256 (some []) 0 0 := P_h72_5_told.zfr fr83_5 (by first | decide | omega) (by first | decide | omega)
    have P_h83_5_sh : ShT h83_5 70 11 64 5 (wsU (wtL L t) 5) := P_h72_5_sh.zfr fr83_5 (fun j h1 h2 => by omega)
    have P_h83_5_be : RowE h83_5 be 512 := P_h72_5_be.zfr fr83_5 (by omega) (by omega)
    have FR_h83_5 : Fr h h83_5 (fun j => (67 ≤ j ∧ j ≤ 80) ∨ j = 106 ∨ j = 107) := FR_h72_5.zsub fr83_5 (fun j hj => by first | exact hj | exact Or.inl hj | exact Or.inr hj | omega)
    show WX _ _ _ 86 [(0, .ref 67), (1, .ref 96), (2, .ref 106), (3, .int (nI (lsF L 255))), (4, .int 1), (5, .int 5)] [] (n, s, h83_5)
    have P9_ : RowIs h83_5 ot 512 (some (shY (wtL L t) 5)) 0 0 := P_h83_5_ot
    clear P_h83_5_ot
    have P_h83_5_ot := P9_
    clear P9_
    refine WX.s1 rfl rfl ?_
    refine WX.s1 rfl rfl ?_
    refine WX.get1 (fs := [.ref 68, .ref 69, .ref 70, .ref be, .ref ot]) rfl (by omega) (F_h83_5_67) rfl ?_
    refine WX.s1 rfl rfl ?_
    rw [← hwl]
    refine WX.callC (vs := [.ref 67, .ref ot, .int (nI (wtL L t).length)]) rfl rfl rfl (Nat.le_of_ble_eq_true rfl) (rcv_ok (by omega) F_h83_5_67) ?_
    refine x_dTwo hn (by omega) (by decide) (by decide) (by decide) hws hw9 F_h83_5_67 F_h83_5_68 P_h83_5_ot P_h83_5_sh (fun h92_5 fr92_5 P_h92_5_ot => ?_)
    have F_h92_5_67 : h92_5 67 = .inr (2, [.ref 68, .ref 69, .ref 70, .ref be, .ref ot]) := (fr92_5 _ (by first | decide | omega)).trans F_h83_5_67
    have F_h92_5_68 : h92_5 68 = .inl (1, 256, .inl w2) := (fr92_5 _ (by first | decide | omega)).trans F_h83_5_68
    have F_h92_5_69 : h92_5 69 = .inl (1, 12, .inl c2) := (fr92_5 _ (by first | decide | omega)).trans F_h83_5_69
    have P_h92_5_co : CoT h92_5 96 L t := P_h83_5_co.zfr fr92_5 (fun j h1 h2 => by omega)
    have P_h92_5_told : RowIs h92_5 106 256 (some []) 0 0 := P_h83_5_told.zfr fr92_5 (by first | decide | omega) (by first | decide | omega)
    have P_h92_5_sh : ShT h92_5 70 11 64 5 (wsU (wtL L t) 5) := P_h83_5_sh.zfr fr92_5 (fun j h1 h2 => by omega)
    have P_h92_5_be : RowE h92_5 be 512 := P_h83_5_be.zfr fr92_5 (by omega) (by omega)
    have FR_h92_5 : Fr h h92_5 (fun j => (67 ≤ j ∧ j ≤ 80) ∨ j = 106 ∨ j = 107) := FR_h83_5.zsub fr92_5 (fun j hj => by first | exact hj | exact Or.inl hj | exact Or.inr hj | omega)
    show WX _ _ _ 95 [(0, .ref 67), (1, .ref 96), (2, .ref 106), (3, .int (nI (wtL L t).length)), (4, .int 1), (5, .int 5)] [] (n, s, h92_5)
    rw [bputs_len _ _ (by have e : (shY (wtL L t) 5 ++ twY (wtL L t) 5).length = n5 := hn5.symm; rw [List.length_append] at e; omega), show shY (wtL L t) 5 ++ twY (wtL L t) 5 = stY (wtL L t) 5 from rfl] at P_h92_5_ot
    rw [hwl]
    refine WX.s1 rfl rfl ?_
    refine WX.s1 rfl rfl ?_
    refine WX.icmp rfl (fun c_98 => ?_) (fun c_98 => absurd (by decide) c_98)
    clear c_98
    refine WX.s1 rfl rfl ?_
    refine WX.get1 (fs := [.ref 68, .ref 69, .ref 70, .ref be, .ref ot]) rfl (by omega) (F_h92_5_67) rfl ?_
    refine WX.asN (L' := [(0, .ref 67), (1, .ref 96), (2, .ref 106), (3, .int (nI (lsF L 255))), (4, .int 1), (5, .int 5), (6, .ref be)]) rfl rfl ?_
    refine WX.s1 rfl rfl ?_
    refine WX.s1 rfl rfl ?_
    refine WX.get1 (fs := [.ref 68, .ref 69, .ref 70, .ref be, .ref ot]) rfl (by omega) (F_h92_5_67) rfl ?_
    refine WX.put1 (fs := [.ref 68, .ref 69, .ref 70, .ref be, .ref ot]) (fs' := [.ref 68, .ref 69, .ref 70, .ref ot, .ref ot]) rfl (by omega) (F_h92_5_67) (Nat.le_of_ble_eq_true rfl) (rfl) rfl (fun h129 e_h129 => ?_)
    have F_h129_67 : h129 67 = .inr (2, [.ref 68, .ref 69, .ref 70, .ref ot, .ref ot]) := by rw [e_h129]; exact va_up_eq
    have F_h129_68 : h129 68 = .inl (1, 256, .inl w2) := by rw [e_h129, va_up_neq (by decide)]; exact F_h92_5_68
    have F_h129_69 : h129 69 = .inl (1, 12, .inl c2) := by rw [e_h129, va_up_neq (by decide)]; exact F_h92_5_69
    have P_h129_co : CoT h129 96 L t := P_h92_5_co.zfr (Fr.of e_h129) (fun j h1 h2 => by omega)
    have P_h129_told : RowIs h129 106 256 (some []) 0 0 := P_h92_5_told.zfr (Fr.of e_h129) (by decide) (by decide)
    have P_h129_sh : ShT h129 70 11 64 5 (wsU (wtL L t) 5) := P_h92_5_sh.zfr (Fr.of e_h129) (fun j h1 h2 => by omega)
    have P_h129_be : RowE h129 be 512 := P_h92_5_be.zfr (Fr.of e_h129) (by omega) (by omega)
    have P_h129_ot : RowIs h129 ot 512 (some (stY (wtL L t) 5)) 0 0 := P_h92_5_ot.zfr (Fr.of e_h129) (by omega) (by omega)
    have FR_h129 : Fr h h129 (fun j => (67 ≤ j ∧ j ≤ 80) ∨ j = 106 ∨ j = 107) := FR_h92_5.zup e_h129 (by first | exact rfl | exact Or.inl rfl | exact Or.inr rfl | exact ⟨by decide, by decide⟩ | decide | omega)
    clear F_h92_5_67 F_h92_5_68 F_h92_5_69 P_h92_5_co P_h92_5_told P_h92_5_sh P_h92_5_be P_h92_5_ot FR_h92_5 e_h129
    refine WX.s1 rfl rfl ?_
    refine WX.s1 rfl rfl ?_
    refine WX.put1 (fs := [.ref 68, .ref 69, .ref 70, .ref ot, .ref ot]) (fs' := [.ref 68, .ref 69, .ref 70, .ref ot, .ref be]) rfl (by omega) (F_h129_67) (Nat.le_of_ble_eq_true rfl) (rfl) rfl (fun h135 e_h135 => ?_)
    have F_h135_67 : h135 67 = .inr (2, [.ref 68, .ref 69, .ref 70, .ref ot, .ref be]) := by rw [e_h135]; exact va_up_eq
    have F_h135_68 : h135 68 = .inl (1, 256, .inl w2) := by rw [e_h135, va_up_neq (by decide)]; exact F_h129_68
    have F_h135_69 : h135 69 = .inl (1, 12, .inl c2) := by rw [e_h135, va_up_neq (by decide)]; exact F_h129_69
    have P_h135_co : CoT h135 96 L t := P_h129_co.zfr (Fr.of e_h135) (fun j h1 h2 => by omega)
    have P_h135_told : RowIs h135 106 256 (some []) 0 0 := P_h129_told.zfr (Fr.of e_h135) (by decide) (by decide)
    have P_h135_sh : ShT h135 70 11 64 5 (wsU (wtL L t) 5) := P_h129_sh.zfr (Fr.of e_h135) (fun j h1 h2 => by omega)
    have P_h135_be : RowE h135 be 512 := P_h129_be.zfr (Fr.of e_h135) (by omega) (by omega)
    have P_h135_ot : RowIs h135 ot 512 (some (stY (wtL L t) 5)) 0 0 := P_h129_ot.zfr (Fr.of e_h135) (by omega) (by omega)
    have FR_h135 : Fr h h135 (fun j => (67 ≤ j ∧ j ≤ 80) ∨ j = 106 ∨ j = 107) := FR_h129.zup e_h135 (by first | exact rfl | exact Or.inl rfl | exact Or.inr rfl | exact ⟨by decide, by decide⟩ | decide | omega)
    clear F_h129_67 F_h129_68 F_h129_69 P_h129_co P_h129_told P_h129_sh P_h129_be P_h129_ot FR_h129 e_h135
    refine WX.s1 (L' := [(0, .ref 67), (1, .ref 96), (2, .ref 106), (3, .int (nI (lsF L 255))), (4, .int 1), (5, .int (5 + 1)), (6, .ref be)]) rfl rfl ?_
    rw [show ((5 : Int32) + 1) = 6 from rfl]
    refine WX.keep (y := 24) [0, 1, 2, 3, 4, 5] (show ([0, 1, 2, 3, 4, 5, 6] : List Nat).Nodup by decide) rfl ?_
    have P_h135_shx : ShX h135 70 11 64 := (P_h135_sh.toP).toX
    clear P_h135_sh
    have P_h135_sh := P_h135_shx
    refine WX.s1 rfl rfl ?_
    refine WX.s1 rfl rfl ?_
    refine WX.if_ rfl (fun c_38 => absurd c_38 (by decide)) (fun c_38 => ?_)
    clear c_38
    refine WX.s1 rfl rfl ?_
    refine WX.s1 rfl rfl ?_
    refine WX.icmp rfl (fun c_45 => absurd c_45 (by decide)) (fun c_45 => ?_)
    clear c_45
    refine WX.s1 rfl rfl ?_
    refine WX.get1 (fs := [.ref 68, .ref 69, .ref 70, .ref ot, .ref be]) rfl (by omega) (F_h135_67) rfl ?_
    refine WX.s1 rfl rfl ?_
    refine WX.get1 (fs := [.ref 68, .ref 69, .ref 70, .ref ot, .ref be]) rfl (by omega) (F_h135_67) rfl ?_
    refine WX.s1 rfl rfl ?_
    obtain ⟨eW6, eS6, eN6⟩ := wU_l hsy (show 11 < 64 by decide) hwle (ws_d hws (o := 6) (by decide))
    have hd6 := ws_d hws (o := 6) (by decide)
    refine WX.callC (vs := [.ref 70, .ref 69, .int (nI 6)]) rfl rfl rfl (Nat.le_of_ble_eq_true rfl) (P_h135_sh.rcv (by omega)) ?_
    refine xt_weigh (k := 70) (l := 11) (M := 64) (o := 6) (by omega) (by omega) (by omega) (by decide) (by decide) hc9 (by omega) (by omega) (by omega) P_h135_sh F_h135_69 (fun h58_6 fr58_6 P_h58_6_sh => ?_)
    have F_h58_6_67 : h58_6 67 = .inr (2, [.ref 68, .ref 69, .ref 70, .ref ot, .ref be]) := (fr58_6 _ (by first | decide | omega)).trans F_h135_67
    have F_h58_6_68 : h58_6 68 = .inl (1, 256, .inl w2) := (fr58_6 _ (by first | decide | omega)).trans F_h135_68
    have F_h58_6_69 : h58_6 69 = .inl (1, 12, .inl c2) := (fr58_6 _ (by first | decide | omega)).trans F_h135_69
    have P_h58_6_co : CoT h58_6 96 L t := P_h135_co.zfr fr58_6 (fun j h1 h2 => by omega)
    have P_h58_6_told : RowIs h58_6 106 256 (some []) 0 0 := P_h135_told.zfr fr58_6 (by first | decide | omega) (by first | decide | omega)
    have P_h58_6_be : RowE h58_6 be 512 := P_h135_be.zfr fr58_6 (by omega) (by omega)
    have P_h58_6_ot : RowIs h58_6 ot 512 (some (stY (wtL L t) 5)) 0 0 := P_h135_ot.zfr fr58_6 (by omega) (by omega)
    have FR_h58_6 : Fr h h58_6 (fun j => (67 ≤ j ∧ j ≤ 80) ∨ j = 106 ∨ j = 107) := FR_h135.zsub fr58_6 (fun j hj => by first | exact hj | exact Or.inl hj | exact Or.inr hj | omega)
    show WX _ _ _ 61 [(0, .ref 67), (1, .ref 96), (2, .ref 106), (3, .int (nI (lsF L 255))), (4, .int 1), (5, .int 6)] [] (n, s, h58_6)
    rw [eW6] at P_h58_6_sh
    refine WX.s1 rfl rfl ?_
    refine WX.get1 (fs := [.ref 68, .ref 69, .ref 70, .ref ot, .ref be]) rfl (by omega) (F_h58_6_67) rfl ?_
    refine WX.callC (vs := [.ref 70]) rfl rfl rfl (Nat.le_of_ble_eq_true rfl) ((P_h58_6_sh.toX).rcv (by omega)) ?_
    refine xt_spread (by omega) (by decide) (Or.inr (by decide)) (by decide) (by decide) (by decide) (ws_S hws (o := 6) (by decide) (by decide)).2.1 P_h58_6_sh (fun h65_6 fr65_6 P_h65_6_sh => ?_)
    have F_h65_6_67 : h65_6 67 = .inr (2, [.ref 68, .ref 69, .ref 70, .ref ot, .ref be]) := (fr65_6 _ (by first | decide | omega)).trans F_h58_6_67
    have F_h65_6_68 : h65_6 68 = .inl (1, 256, .inl w2) := (fr65_6 _ (by first | decide | omega)).trans F_h58_6_68
    have F_h65_6_69 : h65_6 69 = .inl (1, 12, .inl c2) := (fr65_6 _ (by first | decide | omega)).trans F_h58_6_69
    have P_h65_6_co : CoT h65_6 96 L t := P_h58_6_co.zfr fr65_6 (fun j h1 h2 => by omega)
    have P_h65_6_told : RowIs h65_6 106 256 (some []) 0 0 := P_h58_6_told.zfr fr65_6 (by first | decide | omega) (by first | decide | omega)
    have P_h65_6_be : RowE h65_6 be 512 := P_h58_6_be.zfr fr65_6 (by omega) (by omega)
    have P_h65_6_ot : RowIs h65_6 ot 512 (some (stY (wtL L t) 5)) 0 0 := P_h58_6_ot.zfr fr65_6 (by omega) (by omega)
    have FR_h65_6 : Fr h h65_6 (fun j => (67 ≤ j ∧ j ≤ 80) ∨ j = 106 ∨ j = 107) := FR_h58_6.zsub fr65_6 (fun j hj => by first | exact hj | exact Or.inl hj | exact Or.inr hj | omega)
    show WX _ _ _ 68 [(0, .ref 67), (1, .ref 96), (2, .ref 106), (3, .int (nI (lsF L 255))), (4, .int 1), (5, .int 6)] [] (n, s, h65_6)
    refine WX.s1 rfl rfl ?_
    refine WX.get1 (fs := [.ref 68, .ref 69, .ref 70, .ref ot, .ref be]) rfl (by omega) (F_h65_6_67) rfl ?_
    refine WX.callC (vs := [.ref be]) rfl rfl rfl (Nat.le_of_ble_eq_true rfl) (P_h65_6_be.rcv (by omega)) ?_
    refine w_dropE (by omega) P_h65_6_be (fun h72_6 fr72_6 P_h72_6_be => ?_)
    have F_h72_6_67 : h72_6 67 = .inr (2, [.ref 68, .ref 69, .ref 70, .ref ot, .ref be]) := (fr72_6 _ (by first | decide | omega)).trans F_h65_6_67
    have F_h72_6_68 : h72_6 68 = .inl (1, 256, .inl w2) := (fr72_6 _ (by first | decide | omega)).trans F_h65_6_68
    have F_h72_6_69 : h72_6 69 = .inl (1, 12, .inl c2) := (fr72_6 _ (by first | decide | omega)).trans F_h65_6_69
    have P_h72_6_co : CoT h72_6 96 L t := P_h65_6_co.zfr fr72_6 (fun j h1 h2 => by omega)
    have P_h72_6_told : RowIs h72_6 106 256 (some []) 0 0 := P_h65_6_told.zfr fr72_6 (by first | decide | omega) (by first | decide | omega)
    have P_h72_6_sh : ShT h72_6 70 11 64 6 (wsU (wtL L t) 6) := P_h65_6_sh.zfr fr72_6 (fun j h1 h2 => by omega)
    have P_h72_6_ot : RowIs h72_6 ot 512 (some (stY (wtL L t) 5)) 0 0 := P_h65_6_ot.zfr fr72_6 (by omega) (by omega)
    have FR_h72_6 : Fr h h72_6 (fun j => (67 ≤ j ∧ j ≤ 80) ∨ j = 106 ∨ j = 107) := FR_h65_6.zsub fr72_6 (fun j hj => by first | exact hj | exact Or.inl hj | exact Or.inr hj | omega)
    show WX _ _ _ 75 [(0, .ref 67), (1, .ref 96), (2, .ref 106), (3, .int (nI (lsF L 255))), (4, .int 1), (5, .int 6)] [] (n, s, h72_6)
    refine WX.s1 rfl rfl ?_
    refine WX.get1 (fs := [.ref 68, .ref 69, .ref 70, .ref ot, .ref be]) rfl (by omega) (F_h72_6_67) rfl ?_
    refine WX.s1 rfl rfl ?_
    refine WX.get1 (fs := [.ref 68, .ref 69, .ref 70, .ref ot, .ref be]) rfl (by omega) (F_h72_6_67) rfl ?_
    refine WX.callC (vs := [.ref 70, .ref be]) rfl rfl rfl (Nat.le_of_ble_eq_true rfl) (((P_h72_6_sh.toP).toX).rcv (by omega)) ?_
    refine xt_tellL (by omega) (by omega) (by omega) (by decide) (by decide) (by decide) (by decide) (ws_S hws (o := 6) (by decide) (by decide)).2.1 (by omega) P_h72_6_be P_h72_6_sh.toP (fun h83_6 fr83_6 P_h83_6_be => ?_)
    have F_h83_6_67 : h83_6 67 = .inr (2, [.ref 68, .ref 69, .ref 70, .ref ot, .ref be]) := (fr83_6 _ (by first | decide | omega)).trans F_h72_6_67
    have F_h83_6_68 : h83_6 68 = .inl (1, 256, .inl w2) := (fr83_6 _ (by first | decide | omega)).trans F_h72_6_68
    have F_h83_6_69 : h83_6 69 = .inl (1, 12, .inl c2) := (fr83_6 _ (by first | decide | omega)).trans F_h72_6_69
    have P_h83_6_co : CoT h83_6 96 L t := P_h72_6_co.zfr fr83_6 (fun j h1 h2 => by omega)
    have P_h83_6_told : RowIs h83_6 106 256 (some []) 0 0 := P_h72_6_told.zfr fr83_6 (by first | decide | omega) (by first | decide | omega)
    have P_h83_6_sh : ShT h83_6 70 11 64 6 (wsU (wtL L t) 6) := P_h72_6_sh.zfr fr83_6 (fun j h1 h2 => by omega)
    have P_h83_6_ot : RowIs h83_6 ot 512 (some (stY (wtL L t) 5)) 0 0 := P_h72_6_ot.zfr fr83_6 (by omega) (by omega)
    have FR_h83_6 : Fr h h83_6 (fun j => (67 ≤ j ∧ j ≤ 80) ∨ j = 106 ∨ j = 107) := FR_h72_6.zsub fr83_6 (fun j hj => by first | exact hj | exact Or.inl hj | exact Or.inr hj | omega)
    show WX _ _ _ 86 [(0, .ref 67), (1, .ref 96), (2, .ref 106), (3, .int (nI (lsF L 255))), (4, .int 1), (5, .int 6)] [] (n, s, h83_6)
    have P9_ : RowIs h83_6 be 512 (some (shY (wtL L t) 6)) 0 0 := P_h83_6_be
    clear P_h83_6_be
    have P_h83_6_be := P9_
    clear P9_
    refine WX.s1 rfl rfl ?_
    refine WX.s1 rfl rfl ?_
    refine WX.get1 (fs := [.ref 68, .ref 69, .ref 70, .ref ot, .ref be]) rfl (by omega) (F_h83_6_67) rfl ?_
    refine WX.s1 rfl rfl ?_
    rw [← hwl]
    refine WX.callC (vs := [.ref 67, .ref be, .int (nI (wtL L t).length)]) rfl rfl rfl (Nat.le_of_ble_eq_true rfl) (rcv_ok (by omega) F_h83_6_67) ?_
    refine x_dTwo hn (by omega) (by decide) (by decide) (by decide) hws hw9 F_h83_6_67 F_h83_6_68 P_h83_6_be P_h83_6_sh (fun h92_6 fr92_6 P_h92_6_be => ?_)
    have F_h92_6_67 : h92_6 67 = .inr (2, [.ref 68, .ref 69, .ref 70, .ref ot, .ref be]) := (fr92_6 _ (by first | decide | omega)).trans F_h83_6_67
    have F_h92_6_68 : h92_6 68 = .inl (1, 256, .inl w2) := (fr92_6 _ (by first | decide | omega)).trans F_h83_6_68
    have F_h92_6_69 : h92_6 69 = .inl (1, 12, .inl c2) := (fr92_6 _ (by first | decide | omega)).trans F_h83_6_69
    have P_h92_6_co : CoT h92_6 96 L t := P_h83_6_co.zfr fr92_6 (fun j h1 h2 => by omega)
    have P_h92_6_told : RowIs h92_6 106 256 (some []) 0 0 := P_h83_6_told.zfr fr92_6 (by first | decide | omega) (by first | decide | omega)
    have P_h92_6_sh : ShT h92_6 70 11 64 6 (wsU (wtL L t) 6) := P_h83_6_sh.zfr fr92_6 (fun j h1 h2 => by omega)
    have P_h92_6_ot : RowIs h92_6 ot 512 (some (stY (wtL L t) 5)) 0 0 := P_h83_6_ot.zfr fr92_6 (by omega) (by omega)
    have FR_h92_6 : Fr h h92_6 (fun j => (67 ≤ j ∧ j ≤ 80) ∨ j = 106 ∨ j = 107) := FR_h83_6.zsub fr92_6 (fun j hj => by first | exact hj | exact Or.inl hj | exact Or.inr hj | omega)
    show WX _ _ _ 95 [(0, .ref 67), (1, .ref 96), (2, .ref 106), (3, .int (nI (wtL L t).length)), (4, .int 1), (5, .int 6)] [] (n, s, h92_6)
    rw [bputs_len _ _ (by have e : (shY (wtL L t) 6 ++ twY (wtL L t) 6).length = n6 := hn6.symm; rw [List.length_append] at e; omega), show shY (wtL L t) 6 ++ twY (wtL L t) 6 = stY (wtL L t) 6 from rfl] at P_h92_6_be
    rw [hwl]
    obtain ⟨g_be, hq_be, -⟩ := P_h92_6_be.at_
    have F_h92_6_be := hq_be.1
    rw [← hn6] at F_h92_6_be
    obtain ⟨g_ot, hq_ot, -⟩ := P_h92_6_ot.at_
    have F_h92_6_ot := hq_ot.1
    rw [← hn5] at F_h92_6_ot
    refine WX.s1 rfl rfl ?_
    refine WX.s1 rfl rfl ?_
    refine WX.icmp rfl (fun c_98 => absurd c_98 (by decide)) (fun c_98 => ?_)
    clear c_98
    refine WX.s1 rfl rfl ?_
    refine WX.get1 (fs := [.ref 68, .ref 69, .ref 70, .ref ot, .ref be]) rfl (by omega) (F_h92_6_67) rfl ?_
    refine WX.get1 (fs := [.ref (be + 1), .int (nI n6), .int 0, .long 0, .int 0]) rfl (by omega) (F_h92_6_be) rfl ?_
    refine WX.s1 rfl rfl ?_
    refine WX.get1 (fs := [.ref 68, .ref 69, .ref 70, .ref ot, .ref be]) rfl (by omega) (F_h92_6_67) rfl ?_
    refine WX.get1 (fs := [.ref (ot + 1), .int (nI n5), .int 0, .long 0, .int 0]) rfl (by omega) (F_h92_6_ot) rfl ?_
    refine WX.icmp rfl (fun c_115 => ?_) (fun c_115 => ?_)
    · skip
      have n_115 : n5 ≤ n6 := (nI_leI (a := n5) (b := n6) (by omega) (by omega)).mp c_115
      refine WX.s1 (L' := [(0, .ref 67), (1, .ref 96), (2, .ref 106), (3, .int (nI (lsF L 255))), (4, .int 1), (5, .int (6 + 1))]) rfl rfl ?_
      rw [show ((6 : Int32) + 1) = 7 from rfl]
      have hbe : bsY (wtL L t) = stY (wtL L t) 5 := if_neg (by rw [← hn5, ← hn6]; omega)
      refine WX.s1 rfl rfl ?_
      refine WX.s1 rfl rfl ?_
      refine WX.if_ rfl (fun c_38 => absurd c_38 (by decide)) (fun c_38 => ?_)
      clear c_38
      refine WX.s1 rfl rfl ?_
      refine WX.s1 rfl rfl ?_
      refine WX.icmp rfl (fun c_45 => ?_) (fun c_45 => absurd (by decide) c_45)
      clear c_45
      exact t144 h92_6 ot be 7 (by omega) FR_h92_6 F_h92_6_67 F_h92_6_68 F_h92_6_69 ((P_h92_6_sh.toP).toX) (by rw [hbe]; exact P_h92_6_ot) P_h92_6_be.toE P_h92_6_told
    · skip
      have n_115 : n6 < n5 := Nat.lt_of_not_le (fun zz_ => c_115 ((nI_leI (a := n5) (b := n6) (by omega) (by omega)).mpr zz_))
      refine WX.s1 rfl rfl ?_
      refine WX.get1 (fs := [.ref 68, .ref 69, .ref 70, .ref ot, .ref be]) rfl (by omega) (F_h92_6_67) rfl ?_
      refine WX.asN (L' := [(0, .ref 67), (1, .ref 96), (2, .ref 106), (3, .int (nI (lsF L 255))), (4, .int 1), (5, .int 6), (6, .ref ot)]) rfl rfl ?_
      refine WX.s1 rfl rfl ?_
      refine WX.s1 rfl rfl ?_
      refine WX.get1 (fs := [.ref 68, .ref 69, .ref 70, .ref ot, .ref be]) rfl (by omega) (F_h92_6_67) rfl ?_
      refine WX.put1 (fs := [.ref 68, .ref 69, .ref 70, .ref ot, .ref be]) (fs' := [.ref 68, .ref 69, .ref 70, .ref be, .ref be]) rfl (by omega) (F_h92_6_67) (Nat.le_of_ble_eq_true rfl) (rfl) rfl (fun h129x2 e_h129x2 => ?_)
      have F_h129x2_67 : h129x2 67 = .inr (2, [.ref 68, .ref 69, .ref 70, .ref be, .ref be]) := by rw [e_h129x2]; exact va_up_eq
      have F_h129x2_68 : h129x2 68 = .inl (1, 256, .inl w2) := by rw [e_h129x2, va_up_neq (by decide)]; exact F_h92_6_68
      have F_h129x2_69 : h129x2 69 = .inl (1, 12, .inl c2) := by rw [e_h129x2, va_up_neq (by decide)]; exact F_h92_6_69
      have F_h129x2_be : h129x2 be = .inr (7, [.ref (be + 1), .int (nI n6), .int 0, .long 0, .int 0]) := by rw [e_h129x2, va_up_neq (by omega)]; exact F_h92_6_be
      have F_h129x2_ot : h129x2 ot = .inr (7, [.ref (ot + 1), .int (nI n5), .int 0, .long 0, .int 0]) := by rw [e_h129x2, va_up_neq (by omega)]; exact F_h92_6_ot
      have P_h129x2_co : CoT h129x2 96 L t := P_h92_6_co.zfr (Fr.of e_h129x2) (fun j h1 h2 => by omega)
      have P_h129x2_told : RowIs h129x2 106 256 (some []) 0 0 := P_h92_6_told.zfr (Fr.of e_h129x2) (by decide) (by decide)
      have P_h129x2_sh : ShT h129x2 70 11 64 6 (wsU (wtL L t) 6) := P_h92_6_sh.zfr (Fr.of e_h129x2) (fun j h1 h2 => by omega)
      have P_h129x2_be : RowIs h129x2 be 512 (some (stY (wtL L t) 6)) 0 0 := P_h92_6_be.zfr (Fr.of e_h129x2) (by omega) (by omega)
      have P_h129x2_ot : RowIs h129x2 ot 512 (some (stY (wtL L t) 5)) 0 0 := P_h92_6_ot.zfr (Fr.of e_h129x2) (by omega) (by omega)
      have FR_h129x2 : Fr h h129x2 (fun j => (67 ≤ j ∧ j ≤ 80) ∨ j = 106 ∨ j = 107) := FR_h92_6.zup e_h129x2 (by first | exact rfl | exact Or.inl rfl | exact Or.inr rfl | exact ⟨by decide, by decide⟩ | decide | omega)
      clear F_h92_6_67 F_h92_6_68 F_h92_6_69 F_h92_6_be F_h92_6_ot P_h92_6_co P_h92_6_told P_h92_6_sh P_h92_6_be P_h92_6_ot FR_h92_6 e_h129x2
      refine WX.s1 rfl rfl ?_
      refine WX.s1 rfl rfl ?_
      refine WX.put1 (fs := [.ref 68, .ref 69, .ref 70, .ref be, .ref be]) (fs' := [.ref 68, .ref 69, .ref 70, .ref be, .ref ot]) rfl (by omega) (F_h129x2_67) (Nat.le_of_ble_eq_true rfl) (rfl) rfl (fun h135x2 e_h135x2 => ?_)
      have F_h135x2_67 : h135x2 67 = .inr (2, [.ref 68, .ref 69, .ref 70, .ref be, .ref ot]) := by rw [e_h135x2]; exact va_up_eq
      have F_h135x2_68 : h135x2 68 = .inl (1, 256, .inl w2) := by rw [e_h135x2, va_up_neq (by decide)]; exact F_h129x2_68
      have F_h135x2_69 : h135x2 69 = .inl (1, 12, .inl c2) := by rw [e_h135x2, va_up_neq (by decide)]; exact F_h129x2_69
      have F_h135x2_be : h135x2 be = .inr (7, [.ref (be + 1), .int (nI n6), .int 0, .long 0, .int 0]) := by rw [e_h135x2, va_up_neq (by omega)]; exact F_h129x2_be
      have F_h135x2_ot : h135x2 ot = .inr (7, [.ref (ot + 1), .int (nI n5), .int 0, .long 0, .int 0]) := by rw [e_h135x2, va_up_neq (by omega)]; exact F_h129x2_ot
      have P_h135x2_co : CoT h135x2 96 L t := P_h129x2_co.zfr (Fr.of e_h135x2) (fun j h1 h2 => by omega)
      have P_h135x2_told : RowIs h135x2 106 256 (some []) 0 0 := P_h129x2_told.zfr (Fr.of e_h135x2) (by decide) (by decide)
      have P_h135x2_sh : ShT h135x2 70 11 64 6 (wsU (wtL L t) 6) := P_h129x2_sh.zfr (Fr.of e_h135x2) (fun j h1 h2 => by omega)
      have P_h135x2_be : RowIs h135x2 be 512 (some (stY (wtL L t) 6)) 0 0 := P_h129x2_be.zfr (Fr.of e_h135x2) (by omega) (by omega)
      have P_h135x2_ot : RowIs h135x2 ot 512 (some (stY (wtL L t) 5)) 0 0 := P_h129x2_ot.zfr (Fr.of e_h135x2) (by omega) (by omega)
      have FR_h135x2 : Fr h h135x2 (fun j => (67 ≤ j ∧ j ≤ 80) ∨ j = 106 ∨ j = 107) := FR_h129x2.zup e_h135x2 (by first | exact rfl | exact Or.inl rfl | exact Or.inr rfl | exact ⟨by decide, by decide⟩ | decide | omega)
      clear F_h129x2_67 F_h129x2_68 F_h129x2_69 F_h129x2_be F_h129x2_ot P_h129x2_co P_h129x2_told P_h129x2_sh P_h129x2_be P_h129x2_ot FR_h129x2 e_h135x2
      refine WX.s1 (L' := [(0, .ref 67), (1, .ref 96), (2, .ref 106), (3, .int (nI (lsF L 255))), (4, .int 1), (5, .int (6 + 1)), (6, .ref ot)]) rfl rfl ?_
      rw [show ((6 : Int32) + 1) = 7 from rfl]
      refine WX.keep (y := 24) [0, 1, 2, 3, 4, 5] (show ([0, 1, 2, 3, 4, 5, 6] : List Nat).Nodup by decide) rfl ?_
      have hbe : bsY (wtL L t) = stY (wtL L t) 6 := if_pos (by rw [← hn5, ← hn6]; exact n_115)
      refine WX.s1 rfl rfl ?_
      refine WX.s1 rfl rfl ?_
      refine WX.if_ rfl (fun c_38 => absurd c_38 (by decide)) (fun c_38 => ?_)
      clear c_38
      refine WX.s1 rfl rfl ?_
      refine WX.s1 rfl rfl ?_
      refine WX.icmp rfl (fun c_45 => ?_) (fun c_45 => absurd (by decide) c_45)
      clear c_45
      exact t144 h135x2 be ot 7 hbo FR_h135x2 F_h135x2_67 F_h135x2_68 F_h135x2_69 ((P_h135x2_sh.toP).toX) (by rw [hbe]; exact P_h135x2_be) P_h135x2_ot.toE P_h135x2_told
  · have hbn : bsN (wtL L t) = 0 := if_neg (fun q => hv ⟨q.1, by have := q.2.1; omega⟩)
    have t144 : ∀ (hL : Nat → aE) (b2 o2 : Nat) (od : Int32), ((b2 = 77 ∧ o2 = 79) ∨ (b2 = 79 ∧ o2 = 77)) → Fr h hL (fun j => (67 ≤ j ∧ j ≤ 80) ∨ j = 106 ∨ j = 107) → hL 67 = .inr (2, [.ref 68, .ref 69, .ref 70, .ref b2, .ref o2]) → hL 68 = .inl (1, 256, .inl w2) → hL 69 = .inl (1, 12, .inl c2) → ShX hL 70 11 64 → RowE hL b2 512 → RowE hL o2 512 → RowIs hL 106 256 (some []) 0 0 → WX (lk tX2_describe) (mM (d + 3)) Ψ 144 [(0, .ref 67), (1, .ref 96), (2, .ref 106), (3, .int (nI (lsF L 255))), (4, .int 0), (5, .int od)] [] (n, s, hL) := by
      clear F_h2_67 F_h2_68 F_h2_69 FR_h2 P_h2_co P_h2_told P_h2_sh P_h2_be P_h2_ot hbo
      intro hL b2 o2 od hbo FR_hL F_hL_67 F_hL_68 F_hL_69 P_hL_sh P_hL_be P_hL_ot P_hL_told
      refine WX.s1 rfl rfl ?_
      refine WX.if_ rfl (fun c_146 => ?_) (fun c_146 => absurd (by decide) c_146)
      clear c_146
      refine WX.s1 rfl rfl ?_
      refine WX.s1 (L' := [(0, .ref 67), (1, .ref 96), (2, .ref 106), (3, .int (nI (lsF L 255))), (4, .int 0), (5, .int 0)]) rfl rfl ?_
      refine WX.s1 rfl rfl ?_
      refine WX.s1 rfl rfl ?_
      refine WX.icmp rfl (fun c_179 => ?_) (fun c_179 => ?_)
      · skip
        have n_179 : 128 < (lsF L 255) := (nI_ltI (a := 128) (b := lsF L 255) (by omega) (by omega)).mp c_179
        refine WX.s1 rfl rfl ?_
        refine WX.s1 (L' := [(0, .ref 67), (1, .ref 96), (2, .ref 106), (3, .int (nI (lsF L 255))), (4, .int 0), (5, .int 0), (6, .int 0)]) rfl rfl ?_
        refine WX.s1 rfl rfl ?_
        refine WX.if_ rfl (fun c_195 => ?_) (fun c_195 => absurd (by decide) c_195)
        clear c_195
        refine WX.s1 rfl rfl ?_
        refine WX.if_ rfl (fun c_220 => ?_) (fun c_220 => absurd (by decide) c_220)
        clear c_220
        refine WX.s1 rfl rfl ?_
        refine WX.if_ rfl (fun c_242 => ?_) (fun c_242 => absurd (by decide) c_242)
        clear c_242
        refine WX.s1 rfl rfl ?_
        have hno : dsY (wtL L t) = none := by unfold dsY; rw [hwl, if_neg (by omega), if_pos (by omega)]
        exact WX.ret3 rfl (by decide) (kkN hno hL FR_hL (DX.of hbo F_hL_67 F_hL_68 F_hL_69 P_hL_sh P_hL_be P_hL_ot) P_hL_told)
      · skip
        have n_179 : (lsF L 255) ≤ 128 := Nat.le_of_not_lt (fun zz_ => c_179 ((nI_ltI (a := 128) (b := lsF L 255) (by omega) (by omega)).mpr zz_))
        refine WX.s1 rfl rfl ?_
        refine WX.s1 rfl rfl ?_
        refine WX.s1 (S' := [.int ((nI (lsF L 255)) + 1)]) rfl rfl ?_
        rw [show ((nI (lsF L 255)) + 1) = nI (lsF L 255 + 1) from nI_add (lsF L 255) 1]
        refine WX.s1 rfl rfl ?_
        refine WX.div rfl (by decide) ?_
        rw [show nI ((lsF L 255) + 1) / 2 = nI (((lsF L 255) + 1) / 2) from pk_div (by omega) (by decide) (by decide)]
        refine WX.s1 rfl rfl ?_
        refine WX.s1 (L' := [(0, .ref 67), (1, .ref 96), (2, .ref 106), (3, .int (nI (lsF L 255))), (4, .int 0), (5, .int 0), (6, .int (nI (((lsF L 255) + 1) / 2)))]) rfl rfl ?_
        refine WX.s1 rfl rfl ?_
        refine WX.if_ rfl (fun c_195 => ?_) (fun c_195 => ?_)
        · skip
          have n_195 : (((lsF L 255) + 1) / 2) ≤ 0 := (nI_leI (a := ((lsF L 255) + 1) / 2) (b := 0) (by omega) (by omega)).mp c_195
          refine WX.s1 rfl rfl ?_
          refine WX.if_ rfl (fun c_220 => ?_) (fun c_220 => absurd (by decide) c_220)
          clear c_220
          refine WX.s1 rfl rfl ?_
          refine WX.if_ rfl (fun c_242 => ?_) (fun c_242 => absurd (by decide) c_242)
          clear c_242
          refine WX.s1 rfl rfl ?_
          have hno : dsY (wtL L t) = none := by unfold dsY; rw [hwl, if_neg (by omega), if_pos (by omega)]
          exact WX.ret3 rfl (by decide) (kkN hno hL FR_hL (DX.of hbo F_hL_67 F_hL_68 F_hL_69 P_hL_sh P_hL_be P_hL_ot) P_hL_told)
        · skip
          have n_195 : 0 < (((lsF L 255) + 1) / 2) := Nat.lt_of_not_le (fun zz_ => c_195 ((nI_leI (a := ((lsF L 255) + 1) / 2) (b := 0) (by omega) (by omega)).mpr zz_))
          refine WX.s1 rfl rfl ?_
          refine WX.if_ rfl (fun c_200 => ?_) (fun c_200 => absurd (by decide) c_200)
          clear c_200
          refine WX.s1 rfl rfl ?_
          refine WX.s1 rfl rfl ?_
          refine WX.s1 rfl rfl ?_
          have hyes : dsY (wtL L t) = some (dirY (wtL L t)) := by unfold dsY; rw [hwl]; exact if_pos (by omega)
          rw [← hwl]
          refine WX.callC (vs := [.ref 67, .ref 106, .int (nI (wtL L t).length)]) rfl rfl rfl (Nat.le_of_ble_eq_true rfl) (rcv_ok (by omega) F_hL_67) ?_
          refine x_dDir hn (by omega) (by decide) (by decide) (by omega) hwle hw9 F_hL_67 F_hL_68 P_hL_told (fun h213 fr213 P_h213_told => ?_)
          have F_h213_67 : h213 67 = .inr (2, [.ref 68, .ref 69, .ref 70, .ref b2, .ref o2]) := (fr213 _ (by first | decide | omega)).trans F_hL_67
          have F_h213_68 : h213 68 = .inl (1, 256, .inl w2) := (fr213 _ (by first | decide | omega)).trans F_hL_68
          have F_h213_69 : h213 69 = .inl (1, 12, .inl c2) := (fr213 _ (by first | decide | omega)).trans F_hL_69
          have P_h213_sh : ShX h213 70 11 64 := P_hL_sh.zfr fr213 (fun j h1 h2 => by omega)
          have P_h213_be : RowE h213 b2 512 := P_hL_be.zfr fr213 (by omega) (by omega)
          have P_h213_ot : RowE h213 o2 512 := P_hL_ot.zfr fr213 (by omega) (by omega)
          have FR_h213 : Fr h h213 (fun j => (67 ≤ j ∧ j ≤ 80) ∨ j = 106 ∨ j = 107) := FR_hL.zsub fr213 (fun j hj => by first | exact hj | exact Or.inl hj | exact Or.inr hj | omega)
          show WX _ _ _ 216 [(0, .ref 67), (1, .ref 96), (2, .ref 106), (3, .int (nI (wtL L t).length)), (4, .int 0), (5, .int 0), (6, .int (nI (((wtL L t).length + 1) / 2)))] [] (n, s, h213)
          rw [bputs_len _ _ (by rw [dirY_len, hwl]; show 0 + _ ≤ 256; omega), List.nil_append] at P_h213_told
          refine WX.s1 rfl rfl ?_
          exact WX.ret3 rfl (by decide) (kkS _ hyes h213 FR_h213 (DX.of hbo F_h213_67 F_h213_68 F_h213_69 P_h213_sh P_h213_be P_h213_ot) P_h213_told (by rw [dirY_len, hwl]; omega))
    have hne : ¬ (2 ≤ (lsF L 255) ∧ (cdF (wtL L t)).1 ((wtL L t).getD 0 0) < (lsF L 255)) := fun z => hv ⟨hkd.mp (by omega), z.1⟩
    have hcb : (cdF (wtL L t)).1 ((wtL L t).getD 0 0) ≤ (lsF L 255) := by rw [← hwl]; exact cd_all_le _
    refine WX.s1 rfl rfl ?_
    refine WX.s1 rfl rfl ?_
    refine WX.icmp rfl (fun c_8 => ?_) (fun c_8 => ?_)
    · skip
      have n_8 : (lsF L 255) < 2 := (nI_ltI (a := lsF L 255) (b := 2) (by omega) (by omega)).mp c_8
      refine WX.s1 rfl rfl ?_
      refine WX.s1 (L' := [(0, .ref 67), (1, .ref 96), (2, .ref 106), (3, .int (nI (lsF L 255))), (4, .int 0)]) rfl rfl ?_
      refine WX.s1 rfl rfl ?_
      refine WX.s1 (L' := [(0, .ref 67), (1, .ref 96), (2, .ref 106), (3, .int (nI (lsF L 255))), (4, .int 0), (5, .int 5)]) rfl rfl ?_
      refine WX.s1 rfl rfl ?_
      refine WX.if_ rfl (fun c_38 => ?_) (fun c_38 => absurd (by decide) c_38)
      clear c_38
      exact t144 h2 be ot 5 hbo FR_h2 F_h2_67 F_h2_68 F_h2_69 P_h2_sh P_h2_be P_h2_ot P_h2_told
    · skip
      have n_8 : 2 ≤ (lsF L 255) := Nat.le_of_not_lt (fun zz_ => c_8 ((nI_ltI (a := lsF L 255) (b := 2) (by omega) (by omega)).mpr zz_))
      refine WX.s1 rfl rfl ?_
      refine WX.get1 (fs := [.ref 68, .ref 69, .ref 70, .ref be, .ref ot]) rfl (by omega) (F_h2_67) rfl ?_
      refine WX.s1 rfl rfl ?_
      refine WX.get1 (fs := [.ref 68, .ref 69, .ref 70, .ref be, .ref ot]) rfl (by omega) (F_h2_67) rfl ?_
      refine WX.s1 rfl rfl ?_
      refine WX.iald1 rfl (Or.inl (by omega)) (F_h2_68) (by unfold vp_in; decide) ?_
      rw [show Int32.toNatClampNeg 0 = 0 from rfl, hw 0 (by omega)]
      refine WX.iald1 rfl (Or.inl (by omega)) (F_h2_69) (vp_in_nI (N := 12) (by omega) (by decide)) ?_
      rw [nI_clamp (by omega), hc _ (by omega)]
      refine WX.s1 rfl rfl ?_
      refine WX.icmp rfl (fun c_23 => ?_) (fun c_23 => ?_)
      · skip
        have n_23 : (lsF L 255) ≤ ((cdF (wtL L t)).1 ((wtL L t).getD 0 0)) := (nI_leI (a := lsF L 255) (b := (cdF (wtL L t)).1 ((wtL L t).getD 0 0)) (by omega) (by omega)).mp c_23
        refine WX.s1 rfl rfl ?_
        refine WX.s1 (L' := [(0, .ref 67), (1, .ref 96), (2, .ref 106), (3, .int (nI (lsF L 255))), (4, .int 0)]) rfl rfl ?_
        refine WX.s1 rfl rfl ?_
        refine WX.s1 (L' := [(0, .ref 67), (1, .ref 96), (2, .ref 106), (3, .int (nI (lsF L 255))), (4, .int 0), (5, .int 5)]) rfl rfl ?_
        refine WX.s1 rfl rfl ?_
        refine WX.if_ rfl (fun c_38 => ?_) (fun c_38 => absurd (by decide) c_38)
        clear c_38
        exact t144 h2 be ot 5 hbo FR_h2 F_h2_67 F_h2_68 F_h2_69 P_h2_sh P_h2_be P_h2_ot P_h2_told
      · skip
        have n_23 : ((cdF (wtL L t)).1 ((wtL L t).getD 0 0)) < (lsF L 255) := Nat.lt_of_not_le (fun zz_ => c_23 ((nI_leI (a := lsF L 255) (b := (cdF (wtL L t)).1 ((wtL L t).getD 0 0)) (by omega) (by omega)).mpr zz_))
        exact absurd ⟨n_8, n_23⟩ hne
