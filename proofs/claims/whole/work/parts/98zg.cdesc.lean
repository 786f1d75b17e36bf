/-! the description, the class's -/
theorem ws_own {ws : List Nat} (h : WsOk ws) {o : Nat} (ho : 5 ≤ o) (ho9 : o ≤ 9) : ∀ p, ownF (wsU ws o) 64 o p = ownF (wsU ws o) 12 o p := (own_l (ws_sy h) (show 11 < 64 by decide) h.1 (Or.inr ho) ho9 (ws_d h ho)).2
theorem xw_low {d n s : Nat} {h : Nat → aE} {ws : List Nat} {o i : Nat} (hn : 190 ≤ n) (hws : WsOk ws) (ho : 5 ≤ o) (ho6 : o ≤ 6) (hi : i < ws.length) (P : ShT h 70 11 64 o (wsU ws o)) {Ψ : Option Value → aH → Prop} (kk : Ψ (some (.int (nI (lowE (wsU ws o) o (ws.getD i 0))))) (n, s, h)) : WO (mM (d + 1)) 107 [.ref 70, .int (nI (ws.getD i 0))] (n, s, h) Ψ := by
  obtain ⟨s1, s2, s3, s4⟩ := ws_S hws ho (by omega)
  obtain ⟨p1, p2, p3⟩ := P.toS
  have hm := getD_mem hi
  refine x_lowest (by omega) (by decide) (Or.inr ho) (by omega) (Nat.pow_le_pow_right (by decide) ho6) (by decide) s2 p1 (hws.1 _ hm) (s3 _ hm).2 p2 (fun p hp => ?_)
  rw [← low_of ((low_pad (ws_own hws ho (by omega))).mpr hp)]
  exact kk
theorem xw_wid {d n s : Nat} {h : Nat → aE} {ws : List Nat} {o i a : Nat} (hn : 190 ≤ n) (hws : WsOk ws) (ho : 5 ≤ o) (ho6 : o ≤ 6) (hi : i < ws.length) (ha : a < 2 ^ o) (P : ShT h 70 11 64 o (wsU ws o)) {Ψ : Option Value → aH → Prop} (kk : nxW (wsU ws o) o (ws.getD i 0) a ≤ o → nxP (wsU ws o) o (ws.getD i 0) a < 2 ^ o → Ψ (some (.int (nI (nxW (wsU ws o) o (ws.getD i 0) a)))) (n, s, h)) : WO (mM (d + 1)) 108 [.ref 70, .int (nI (ws.getD i 0)), .int (nI a)] (n, s, h) Ψ := by
  obtain ⟨s1, s2, s3, s4⟩ := ws_S hws ho (by omega)
  obtain ⟨p1, p2, p3⟩ := P.toS
  have hm := getD_mem hi
  refine x_width (by omega) (by decide) (Or.inr ho) (by omega) (Nat.pow_le_pow_right (by decide) ho6) (by decide) s2 p1 (hws.1 _ hm) (s3 _ hm).2 ha p2 (fun V p hp => ?_)
  have q := (nx_pad (ws_own hws ho (by omega))).mpr hp
  obtain ⟨e1, e2⟩ := nx_of2 (Or.inr ho) (by omega) s1 q
  obtain ⟨l1, l2⟩ := nx_lt q
  rw [← e2]
  exact kk (by omega) (by omega)
theorem xw_bef {d n s : Nat} {h : Nat → aE} {ws : List Nat} {o i a : Nat} (hn : 190 ≤ n) (hws : WsOk ws) (ho : 5 ≤ o) (ho6 : o ≤ 6) (hi : i < ws.length) (ha : a < 2 ^ o) (P : ShT h 70 11 64 o (wsU ws o)) {Ψ : Option Value → aH → Prop} (kk : Ψ (some (.int (nI (nxP (wsU ws o) o (ws.getD i 0) a)))) (n, s, h)) : WO (mM (d + 1)) 109 [.ref 70, .int (nI (ws.getD i 0)), .int (nI a), .int (nI (nxW (wsU ws o) o (ws.getD i 0) a))] (n, s, h) Ψ := by
  obtain ⟨s1, s2, s3, s4⟩ := ws_S hws ho (by omega)
  obtain ⟨p1, p2, p3⟩ := P.toS
  have hm := getD_mem hi
  obtain ⟨p, W, hN⟩ := nx_ex (Or.inr ho) (by omega) s1 (s3 _ hm).1 (s3 _ hm).2 ha
  obtain ⟨e1, e2⟩ := nx_of2 (Or.inr ho) (by omega) s1 hN
  rw [← e1, ← e2] at hN
  exact x_before (by omega) (by decide) (Or.inr ho) (by omega) (Nat.pow_le_pow_right (by decide) ho6) (by decide) s2 p1 (hws.1 _ hm) (s3 _ hm).2 ha ((nx_pad (ws_own hws ho (by omega))).mp hN) p2 kk
set_option maxRecDepth 20000 in
theorem x_dWeigh {d n s : Nat} {h : Nat → aE} {be ot q t : Nat} {L : Nat → Nat} {wA cA lA : Nat → Int32} {th : Int32} (hn : 190 ≤ n) (hq : q + 3 < n) (hq2 : q = 96 ∨ q = 12 ∨ q = 41) (hok : LenOk L t) (hL : ∀ s, s < 256 → lA s = nI (L s)) (F_h_67 : h 67 = .inr (2, [.ref 68, .ref 69, .ref 70, .ref be, .ref ot])) (F_h_68 : h 68 = .inl (1, 256, .inl wA)) (F_h_69 : h 69 = .inl (1, 12, .inl cA)) (F_h_q : h q = .inr (0, [.ref (q + 1), .ref (q + 2), .ref (q + 3), .int (nI t), .int th])) (F_h__q_1_ : h (q + 1) = .inl (1, 256, .inl lA))  {Ψ : Option Value → aH → Prop} (kk : ∀ h' wA' cA', Fr h h' (fun j => j = 68 ∨ j = 69) → h' 68 = .inl (1, 256, .inl wA') → h' 69 = .inl (1, 12, .inl cA') → (∀ i, i < (lsF L 255) → wA' i = nI ((wtL L t).getD i 0)) → (∀ s, s < 12 → cA' s = nI ((cdF (wtL L t)).1 s)) → Ψ (some (.int (nI (lsF L 255)))) (n, s, h')) : WO (mM (d + 2)) 25 [.ref 67, .ref q] (n, s, h) Ψ := by
  refine WO.of (Nat.le_of_ble_eq_true rfl) ?_
  have FR_h : Fr h h (fun j => j = 68 ∨ j = 69) := Fr.rf
  have hk255 := lsF_le L 255
  have ht := hok.2.1
  have hlt := hok.2.2.1
  have hwl := wtL_len L t
  have hwle := wt_le hok
  show WX (lk tX2_weigh) (mM (d + 1)) Ψ 0 [(0, .ref 67), (1, .ref q)] [] (n, s, h)
  refine WX.s1 rfl rfl ?_
  refine WX.get1 (fs := [.ref (q + 1), .ref (q + 2), .ref (q + 3), .int (nI t), .int th]) rfl (by omega) (F_h_q) rfl ?_
  refine WX.len1 rfl (Or.inl ⟨by omega, by decide⟩) (F_h__q_1_) ?_
  refine WX.s1 rfl rfl ?_
  refine WX.s1 (S' := [.int ((nI 256) - 1)]) rfl rfl ?_
  rw [show nI 256 - 1 = nI 255 from rfl]
  refine WX.s1 (L' := [(0, .ref 67), (1, .ref q), (2, .int (nI 255))]) rfl rfl ?_
  have lp : ∀ x : Nat, (lsF L 255) + x ≤ 255 → WX (lk tX2_weigh) (mM (d + 1)) Ψ 8 [(0, .ref 67), (1, .ref q), (2, .int (nI ((lsF L 255) + x)))] [] (n, s, h) := by
    intro x
    induction x with
    | zero =>
      intro hx
      rw [Nat.add_zero]
      have hlk := hlt (lsF L 255) (by omega)
      have t27 : WX (lk tX2_weigh) (mM (d + 1)) Ψ 27 [(0, .ref 67), (1, .ref q), (2, .int (nI (lsF L 255)))] [] (n, s, h) := by
        refine WX.s1 rfl rfl ?_
        refine WX.get1 (fs := [.ref 68, .ref 69, .ref 70, .ref be, .ref ot]) rfl (by omega) (F_h_67) rfl ?_
        refine WX.s1 rfl rfl ?_
        refine WX.callC (vs := [.ref 69, .int 0]) rfl rfl rfl (Nat.le_of_ble_eq_true rfl) rfl ?_
        refine w_fill (by omega) F_h_69 (by decide) (fun h32 g32 fr32 F_h32_69 hg32 => ?_)
        have F_h32_67 : h32 67 = .inr (2, [.ref 68, .ref 69, .ref 70, .ref be, .ref ot]) := (fr32 _ (by first | decide | omega)).trans F_h_67
        have F_h32_68 : h32 68 = .inl (1, 256, .inl wA) := (fr32 _ (by first | decide | omega)).trans F_h_68
        have F_h32_q : h32 q = .inr (0, [.ref (q + 1), .ref (q + 2), .ref (q + 3), .int (nI t), .int th]) := (fr32 _ (by omega)).trans F_h_q
        have F_h32__q_1_ : h32 (q + 1) = .inl (1, 256, .inl lA) := (fr32 _ (by omega)).trans F_h__q_1_
        have FR_h32 : Fr h h32 (fun j => j = 68 ∨ j = 69) := FR_h.zsub fr32 (fun j hj => by first | exact hj | exact Or.inl hj | exact Or.inr hj | omega)
        show WX _ _ _ 35 [(0, .ref 67), (1, .ref q), (2, .int (nI (lsF L 255)))] [] (n, s, h32)
        refine WX.s1 rfl rfl ?_
        refine WX.s1 (L' := [(0, .ref 67), (1, .ref q), (2, .int (nI (lsF L 255))), (3, .int 0)]) rfl rfl ?_
        have lp2 : ∀ (x i : Nat) (hL_ : Nat → aE) (wM cM : Nat → Int32), i + x = (lsF L 255) → Fr h hL_ (fun j => j = 68 ∨ j = 69) → hL_ 67 = .inr (2, [.ref 68, .ref 69, .ref 70, .ref be, .ref ot]) → hL_ 68 = .inl (1, 256, .inl wM) → hL_ 69 = .inl (1, 12, .inl cM) → hL_ q = .inr (0, [.ref (q + 1), .ref (q + 2), .ref (q + 3), .int (nI t), .int th]) → hL_ (q + 1) = .inl (1, 256, .inl lA) → (∀ j, j < i → wM j = nI ((wtL L t).getD j 0)) → (∀ s, s < 12 → cM s = nI ((cdF ((wtL L t).take i)).1 s)) → WX (lk tX2_weigh) (mM (d + 1)) Ψ 37 [(0, .ref 67), (1, .ref q), (2, .int (nI (lsF L 255))), (3, .int (nI i))] [] (n, s, hL_) := by
          clear FR_h32 F_h32_67 F_h32_68 F_h32_69 F_h32_q F_h32__q_1_
          intro x
          induction x with
          | zero =>
            intro i hL_ wM cM hi FR_hL_ F_hL__67 F_hL__68 F_hL__69 F_hL__q F_hL___q_1_ hw hc
            obtain rfl : i = (lsF L 255) := by omega
            rw [show (wtL L t).take (lsF L 255) = (wtL L t) by rw [← hwl]; exact List.take_length] at hc
            refine WX.s1 rfl rfl ?_
            refine WX.s1 rfl rfl ?_
            refine WX.icmp rfl (fun c_39 => ?_) (fun c_39 => absurd ((nI_leI (a := lsF L 255) (b := lsF L 255) (by omega) (by omega)).mpr (by omega)) c_39)
            clear c_39
            refine WX.s1 rfl rfl ?_
            exact WX.ret1 rfl (kk hL_ wM cM FR_hL_ F_hL__68 F_hL__69 hw hc)
          | succ x ih2 =>
            intro i hL_ wM cM hi FR_hL_ F_hL__67 F_hL__68 F_hL__69 F_hL__q F_hL___q_1_ hw hc
            have hil : i < (wtL L t).length := by omega
            have hcd := cd_take hil
            have hwi := wtL_at (L := L) (t := t) (show i < (lsF L 255) by omega)
            have hw11 := hwle _ (getD_mem hil)
            have hcb : (cdF ((wtL L t).take i)).1 ((wtL L t).getD i 0) ≤ 256 := by refine Nat.le_trans (cd_all_le _) ?_; rw [List.length_take]; omega
            refine WX.s1 rfl rfl ?_
            refine WX.s1 rfl rfl ?_
            refine WX.icmp rfl (fun c_39 => absurd c_39 (fun zz_ => absurd ((nI_leI (a := lsF L 255) (b := i) (by omega) (by omega)).mp zz_) (Nat.not_le.mpr (by omega)))) (fun c_39 => ?_)
            clear c_39
            refine WX.s1 rfl rfl ?_
            refine WX.get1 (fs := [.ref 68, .ref 69, .ref 70, .ref be, .ref ot]) rfl (by omega) (F_hL__67) rfl ?_
            refine WX.s1 rfl rfl ?_
            refine WX.s1 rfl rfl ?_
            refine WX.s1 rfl rfl ?_
            refine WX.callC (vs := [.ref q, .int (nI i)]) rfl rfl rfl (Nat.le_of_ble_eq_true rfl) (rcv_ok (by omega) F_hL__q) ?_
            refine x_weight (by omega) (by omega) hL (hlt i (by omega)) ht F_hL__q F_hL___q_1_ ?_
            rw [← hwi]
            show WX _ _ _ 52 [(0, .ref 67), (1, .ref q), (2, .int (nI (lsF L 255))), (3, .int (nI i))] [.int (nI ((wtL L t).getD i 0)), .int (nI i), .ref 68] (n, s, hL_)
            refine WX.iastN rfl (by omega) (F_hL__68) (vp_in_nI (N := 256) (by omega) (by decide)) (fun g52 h52 e_g52 e_h52 => ?_)
            try dsimp only at e_g52
            have F_h52_67 : h52 67 = .inr (2, [.ref 68, .ref 69, .ref 70, .ref be, .ref ot]) := by rw [e_h52, va_up_neq (by decide)]; exact F_hL__67
            have F_h52_68 : h52 68 = .inl (1, 256, .inl g52) := by rw [e_h52]; exact va_up_eq
            have F_h52_69 : h52 69 = .inl (1, 12, .inl cM) := by rw [e_h52, va_up_neq (by decide)]; exact F_hL__69
            have F_h52_q : h52 q = .inr (0, [.ref (q + 1), .ref (q + 2), .ref (q + 3), .int (nI t), .int th]) := by rw [e_h52, va_up_neq (by omega)]; exact F_hL__q
            have F_h52__q_1_ : h52 (q + 1) = .inl (1, 256, .inl lA) := by rw [e_h52, va_up_neq (by omega)]; exact F_hL___q_1_
            have FR_h52 : Fr h h52 (fun j => j = 68 ∨ j = 69) := FR_hL_.zup e_h52 (by first | exact rfl | exact Or.inl rfl | exact Or.inr rfl | exact ⟨by decide, by decide⟩ | decide | omega)
            clear F_hL__67 F_hL__68 F_hL__69 F_hL__q F_hL___q_1_ FR_hL_ e_h52
            refine WX.s1 rfl rfl ?_
            refine WX.get1 (fs := [.ref 68, .ref 69, .ref 70, .ref be, .ref ot]) rfl (by omega) (F_h52_67) rfl ?_
            refine WX.s1 rfl rfl ?_
            refine WX.get1 (fs := [.ref 68, .ref 69, .ref 70, .ref be, .ref ot]) rfl (by omega) (F_h52_67) rfl ?_
            refine WX.s1 rfl rfl ?_
            refine WX.iald1 rfl (Or.inl (by omega)) (F_h52_68) (vp_in_nI (N := 256) (by omega) (by decide)) ?_
            rw [nI_clamp (by omega), e_g52, nI_clamp (by omega), pk_us]
            refine WX.s1 rfl rfl ?_
            refine WX.iald1 rfl (Or.inl (by omega)) (F_h52_69) (vp_in_nI (N := 12) (by omega) (by decide)) ?_
            rw [nI_clamp (by omega), hc _ (by omega)]
            refine WX.s1 rfl rfl ?_
            refine WX.s1 (S' := [.int ((nI ((cdF ((wtL L t).take i)).1 ((wtL L t).getD i 0))) + 1), .int (nI ((wtL L t).getD i 0)), .ref 69]) rfl rfl ?_
            rw [show ((nI ((cdF ((wtL L t).take i)).1 ((wtL L t).getD i 0))) + 1) = nI ((cdF ((wtL L t).take i)).1 ((wtL L t).getD i 0) + 1) from nI_add ((cdF ((wtL L t).take i)).1 ((wtL L t).getD i 0)) 1]
            refine WX.iastN rfl (by omega) (F_h52_69) (vp_in_nI (N := 12) (by omega) (by decide)) (fun g67 h67 e_g67 e_h67 => ?_)
            try dsimp only at e_g67
            have F_h67_67 : h67 67 = .inr (2, [.ref 68, .ref 69, .ref 70, .ref be, .ref ot]) := by rw [e_h67, va_up_neq (by decide)]; exact F_h52_67
            have F_h67_68 : h67 68 = .inl (1, 256, .inl g52) := by rw [e_h67, va_up_neq (by decide)]; exact F_h52_68
            have F_h67_69 : h67 69 = .inl (1, 12, .inl g67) := by rw [e_h67]; exact va_up_eq
            have F_h67_q : h67 q = .inr (0, [.ref (q + 1), .ref (q + 2), .ref (q + 3), .int (nI t), .int th]) := by rw [e_h67, va_up_neq (by omega)]; exact F_h52_q
            have F_h67__q_1_ : h67 (q + 1) = .inl (1, 256, .inl lA) := by rw [e_h67, va_up_neq (by omega)]; exact F_h52__q_1_
            have FR_h67 : Fr h h67 (fun j => j = 68 ∨ j = 69) := FR_h52.zup e_h67 (by first | exact rfl | exact Or.inl rfl | exact Or.inr rfl | exact ⟨by decide, by decide⟩ | decide | omega)
            clear F_h52_67 F_h52_68 F_h52_69 F_h52_q F_h52__q_1_ FR_h52 e_h67
            refine WX.s1 (L' := [(0, .ref 67), (1, .ref q), (2, .int (nI (lsF L 255))), (3, .int ((nI i) + 1))]) rfl rfl ?_
            rw [show ((nI i) + 1) = nI (i + 1) from nI_add i 1]
            refine WX.s1 rfl rfl ?_
            rw [nI_clamp (by omega)] at e_g52 e_g67
            refine ih2 (i + 1) h67 g52 g67 (by omega) FR_h67 F_h67_67 F_h67_68 F_h67_69 F_h67_q F_h67__q_1_ (fun j hj => ?_) (fun x hx => ?_)
            · rw [e_g52]
              by_cases z : j = i
              · rw [z, pk_us]
              · rw [pk_un z]; exact hw j (by omega)
            · rw [e_g67, hcd]
              show _ = nI (updN _ _ _ x)
              by_cases z : x = (wtL L t).getD i 0
              · rw [z, pk_us, updN_s]
              · rw [pk_un z, updN_n z]; exact hc x hx
        exact lp2 (lsF L 255) 0 h32 wA g32 (by omega) FR_h32 F_h32_67 F_h32_68 F_h32_69 F_h32_q F_h32__q_1_ (fun j hj => absurd hj (Nat.not_lt_zero j)) (fun x hx => hg32 x hx)
      refine WX.s1 rfl rfl ?_
      refine WX.if_ rfl (fun c_9 => ?_) (fun c_9 => ?_)
      · skip
        have n_9 : (lsF L 255) ≤ 0 := (nI_leI (a := lsF L 255) (b := 0) (by omega) (by omega)).mp c_9
        exact t27
      · skip
        have n_9 : 0 < (lsF L 255) := Nat.lt_of_not_le (fun zz_ => c_9 ((nI_leI (a := lsF L 255) (b := 0) (by omega) (by omega)).mpr zz_))
        refine WX.s1 rfl rfl ?_
        refine WX.get1 (fs := [.ref (q + 1), .ref (q + 2), .ref (q + 3), .int (nI t), .int th]) rfl (by omega) (F_h_q) rfl ?_
        refine WX.s1 rfl rfl ?_
        refine WX.iald1 rfl (Or.inl (by omega)) (F_h__q_1_) (vp_in_nI (N := 256) (by omega) (by decide)) ?_
        rw [nI_clamp (by omega), hL _ (by omega)]
        refine WX.if_ rfl (fun c_18 => ?_) (fun c_18 => absurd (fun z => lsF_ne (by omega) ((nI_eq (by omega) (by decide)).mp z)) c_18)
        exact t27
    | succ x ih =>
      intro hx
      have hz0 := lsF_z (L := L) (s := ((lsF L 255) + (x + 1))) (by omega) (by omega)
      refine WX.s1 rfl rfl ?_
      refine WX.if_ rfl (fun c_9 => absurd c_9 (fun zz_ => absurd ((nI_leI (a := (lsF L 255) + (x + 1)) (b := 0) (by omega) (by omega)).mp zz_) (Nat.not_le.mpr (by omega)))) (fun c_9 => ?_)
      clear c_9
      refine WX.s1 rfl rfl ?_
      refine WX.get1 (fs := [.ref (q + 1), .ref (q + 2), .ref (q + 3), .int (nI t), .int th]) rfl (by omega) (F_h_q) rfl ?_
      refine WX.s1 rfl rfl ?_
      refine WX.iald1 rfl (Or.inl (by omega)) (F_h__q_1_) (vp_in_nI (N := 256) (by omega) (by decide)) ?_
      rw [nI_clamp (by omega), hL _ (by omega), hz0]
      refine WX.if_ rfl (fun c_18 => absurd c_18 (by decide)) (fun c_18 => ?_)
      refine WX.s1 (L' := [(0, .ref 67), (1, .ref q), (2, .int ((nI ((lsF L 255) + (x + 1))) + (-1)))]) rfl rfl ?_
      refine WX.s1 rfl rfl ?_
      rw [show nI ((lsF L 255) + (x + 1)) + (-1) = nI ((lsF L 255) + x) from (qI_dec _).trans ((qI_pr (by omega)).trans (congrArg nI (by omega)))]
      exact ih (by omega)
  have h9 := lp (255 - (lsF L 255)) (by omega)
  rw [show (lsF L 255) + (255 - (lsF L 255)) = 255 by omega] at h9
  exact h9
set_option maxRecDepth 20000 in
theorem x_dDir {d n s : Nat} {h : Nat → aE} {be ot r RN : Nat} {ws : List Nat} {wA : Nat → Int32} {bb : Option (List Nat)} (hn : 190 ≤ n) (hr : r + 1 < n) (hr2 : 80 < r) (hRN : RN < 2 ^ 31) (hk : ws.length ≤ 128) (hwle : ∀ s, s ∈ ws → s ≤ 11) (hw : ∀ i, i < ws.length → wA i = nI (ws.getD i 0)) (F_h_67 : h 67 = .inr (2, [.ref 68, .ref 69, .ref 70, .ref be, .ref ot])) (F_h_68 : h 68 = .inl (1, 256, .inl wA)) (P_h_row : RowIs h r RN bb 0 0) {Ψ : Option Value → aH → Prop} (kk : ∀ h', Fr h h' (fun j => j = r ∨ j = r + 1) → RowIs h' r RN (bputs RN bb (dirY ws)) 0 0 → Ψ none (n, s, h')) : WO (mM (d + 2)) 26 [.ref 67, .ref r, .int (nI ws.length)] (n, s, h) Ψ := by
  refine WO.of (Nat.le_of_ble_eq_true rfl) ?_
  have FR_h : Fr h h (fun j => j = r ∨ j = r + 1) := Fr.rf
  show WX (lk tX2_putDirect) (mM (d + 1)) Ψ 0 [(0, .ref 67), (1, .ref r), (2, .int (nI ws.length))] [] (n, s, h)
  refine WX.s1 rfl rfl ?_
  refine WX.s1 rfl rfl ?_
  refine WX.s1 rfl rfl ?_
  refine WX.s1 (S' := [.int (127 + (nI ws.length)), .ref r]) rfl rfl ?_
  rw [show (127 + (nI ws.length)) = nI (127 + ws.length) from nI_add 127 ws.length]
  refine WX.callC (vs := [.ref r, .int (nI (127 + ws.length))]) rfl rfl rfl (Nat.le_of_ble_eq_true rfl) (P_h_row.rcv (by omega)) ?_
  refine w_putB (by omega) P_h_row hRN (fun h5 fr5 P_h5_row => ?_)
  have F_h5_67 : h5 67 = .inr (2, [.ref 68, .ref 69, .ref 70, .ref be, .ref ot]) := (fr5 _ (by first | decide | omega)).trans F_h_67
  have F_h5_68 : h5 68 = .inl (1, 256, .inl wA) := (fr5 _ (by first | decide | omega)).trans F_h_68
  have FR_h5 : Fr h h5 (fun j => j = r ∨ j = r + 1) := FR_h.zsub fr5 (fun j hj => by first | exact hj | exact Or.inl hj | exact Or.inr hj | omega)
  show WX _ _ _ 8 [(0, .ref 67), (1, .ref r), (2, .int (nI ws.length))] [] (n, s, h5)
  refine WX.s1 rfl rfl ?_
  refine WX.s1 (L' := [(0, .ref 67), (1, .ref r), (2, .int (nI ws.length)), (3, .int 0)]) rfl rfl ?_
  have hR0 : RowIs h5 r RN (bputs RN bb (dirP ws 0)) 0 0 := by rw [byt_nI, Nat.mod_eq_of_lt (show 127 + ws.length < 256 by omega)] at P_h5_row; exact P_h5_row
  have lp : ∀ (q j : Nat) (hM : Nat → aE), j + q = (ws.length + 1) / 2 → Fr h hM (fun j => j = r ∨ j = r + 1) → hM 67 = .inr (2, [.ref 68, .ref 69, .ref 70, .ref be, .ref ot]) → hM 68 = .inl (1, 256, .inl wA) → RowIs hM r RN (bputs RN bb (dirP ws j)) 0 0 → WX (lk tX2_putDirect) (mM (d + 1)) Ψ 10 [(0, .ref 67), (1, .ref r), (2, .int (nI ws.length)), (3, .int (nI (2 * j)))] [] (n, s, hM) := by
    clear FR_h5 F_h5_67 F_h5_68 P_h5_row hR0
    intro q
    induction q with
    | zero =>
      intro j hM hj FR_hM F_hM_67 F_hM_68 P_hM_row
      refine WX.s1 rfl rfl ?_
      refine WX.s1 rfl rfl ?_
      refine WX.icmp rfl (fun c_12 => ?_) (fun c_12 => absurd ((nI_leI (a := ws.length) (b := 2 * j) (by omega) (by omega)).mpr (by omega)) c_12)
      clear c_12
      exact WX.ret0 rfl (kk hM FR_hM (by rw [show dirY ws = dirP ws j by unfold dirY dirP; rw [show j = (ws.length + 1) / 2 by omega]]; exact P_hM_row))
    | succ q ih =>
      intro j hM hj FR_hM F_hM_67 F_hM_68 P_hM_row
      have b0 := hwle _ (getD_mem (show 2 * j < ws.length by omega))
      refine WX.s1 rfl rfl ?_
      refine WX.s1 rfl rfl ?_
      refine WX.icmp rfl (fun c_12 => absurd c_12 (fun zz_ => absurd ((nI_leI (a := ws.length) (b := 2 * j) (by omega) (by omega)).mp zz_) (Nat.not_le.mpr (by omega)))) (fun c_12 => ?_)
      clear c_12
      refine WX.s1 rfl rfl ?_
      refine WX.s1 rfl rfl ?_
      refine WX.s1 rfl rfl ?_
      refine WX.get1 (fs := [.ref 68, .ref 69, .ref 70, .ref be, .ref ot]) rfl (by omega) (F_hM_67) rfl ?_
      refine WX.s1 rfl rfl ?_
      refine WX.iald1 rfl (Or.inl (by omega)) (F_hM_68) (vp_in_nI (N := 256) (by omega) (by decide)) ?_
      rw [nI_clamp (by omega), hw _ (by omega)]
      refine WX.s1 (S' := [.int (16 * (nI (ws.getD (2 * j) 0))), .ref r]) rfl rfl ?_
      rw [show (16 * (nI (ws.getD (2 * j) 0))) = nI (16 * (ws.getD (2 * j) 0)) from (Int32.ofNat_mul 16 (ws.getD (2 * j) 0)).symm]
      refine WX.s1 rfl rfl ?_
      refine WX.s1 rfl rfl ?_
      refine WX.s1 (S' := [.int ((nI (2 * j)) + 1), .int (nI (16 * (ws.getD (2 * j) 0))), .ref r]) rfl rfl ?_
      rw [show ((nI (2 * j)) + 1) = nI (2 * j + 1) from nI_add (2 * j) 1]
      refine WX.s1 rfl rfl ?_
      refine WX.icmp rfl (fun c_29 => ?_) (fun c_29 => ?_)
      · skip
        have n_29 : ws.length ≤ (2 * j + 1) := (nI_leI (a := ws.length) (b := 2 * j + 1) (by omega) (by omega)).mp c_29
        refine WX.s1 rfl rfl ?_
        refine WX.s1 (S' := [.int ((nI (16 * (ws.getD (2 * j) 0))) + 0), .ref r]) rfl rfl ?_
        rw [nI_add0]
        have hnx : (if 2 * j + 1 < ws.length then ws.getD (2 * j + 1) 0 else 0) = 0 := if_neg (by omega)
        refine WX.callC (vs := [.ref r, .int (nI (16 * (ws.getD (2 * j) 0)))]) rfl rfl rfl (Nat.le_of_ble_eq_true rfl) (P_hM_row.rcv (by omega)) ?_
        refine w_putB (by omega) P_hM_row hRN (fun h2 fr2 P2 => ?_)
        have F2_67 : h2 67 = .inr (2, [.ref 68, .ref 69, .ref 70, .ref be, .ref ot]) := (fr2 _ (by omega)).trans F_hM_67
        have F2_68 : h2 68 = .inl (1, 256, .inl wA) := (fr2 _ (by omega)).trans F_hM_68
        have P9 : RowIs h2 r RN (bputs RN bb (dirP ws (j + 1))) 0 0 := by rw [dirP_s, bputs_app, hnx]; rw [byt_nI, Nat.mod_eq_of_lt (show 16 * (ws.getD (2 * j) 0) < 256 by omega)] at P2; exact P2
        show WX _ _ _ 48 [(0, .ref 67), (1, .ref r), (2, .int (nI ws.length)), (3, .int (nI (2 * j)))] [] (n, s, h2)
        refine WX.s1 (L' := [(0, .ref 67), (1, .ref r), (2, .int (nI ws.length)), (3, .int ((nI (2 * j)) + 2))]) rfl rfl ?_
        rw [show ((nI (2 * j)) + 2) = nI (2 * j + 2) from nI_add (2 * j) 2]
        refine WX.s1 rfl rfl ?_
        rw [show nI (2 * j + 2) = nI (2 * (j + 1)) from congrArg nI (by omega)]
        exact ih (j + 1) h2 (by omega) (FR_hM.ztr fr2) F2_67 F2_68 P9
      · skip
        have n_29 : (2 * j + 1) < ws.length := Nat.lt_of_not_le (fun zz_ => c_29 ((nI_leI (a := ws.length) (b := 2 * j + 1) (by omega) (by omega)).mpr zz_))
        refine WX.s1 rfl rfl ?_
        refine WX.get1 (fs := [.ref 68, .ref 69, .ref 70, .ref be, .ref ot]) rfl (by omega) (F_hM_67) rfl ?_
        refine WX.s1 rfl rfl ?_
        refine WX.s1 rfl rfl ?_
        refine WX.s1 (S' := [.int ((nI (2 * j)) + 1), .ref 68, .int (nI (16 * (ws.getD (2 * j) 0))), .ref r]) rfl rfl ?_
        rw [show ((nI (2 * j)) + 1) = nI (2 * j + 1) from nI_add (2 * j) 1]
        refine WX.iald1 rfl (Or.inl (by omega)) (F_hM_68) (vp_in_nI (N := 256) (by omega) (by decide)) ?_
        rw [nI_clamp (by omega), hw _ (by omega)]
        refine WX.s1 rfl rfl ?_
        refine WX.s1 (S' := [.int ((nI (16 * (ws.getD (2 * j) 0))) + (nI (ws.getD (2 * j + 1) 0))), .ref r]) rfl rfl ?_
        have hnx : (if 2 * j + 1 < ws.length then ws.getD (2 * j + 1) 0 else 0) = ws.getD (2 * j + 1) 0 := if_pos n_29
        have b1 := hwle _ (getD_mem (show 2 * j + 1 < ws.length by omega))
        rw [show nI (16 * (ws.getD (2 * j) 0)) + nI (ws.getD (2 * j + 1) 0) = nI (16 * (ws.getD (2 * j) 0) + ws.getD (2 * j + 1) 0) from nI_add _ _]
        refine WX.callC (vs := [.ref r, .int (nI (16 * (ws.getD (2 * j) 0) + ws.getD (2 * j + 1) 0))]) rfl rfl rfl (Nat.le_of_ble_eq_true rfl) (P_hM_row.rcv (by omega)) ?_
        refine w_putB (by omega) P_hM_row hRN (fun h2 fr2 P2 => ?_)
        have F2_67 : h2 67 = .inr (2, [.ref 68, .ref 69, .ref 70, .ref be, .ref ot]) := (fr2 _ (by omega)).trans F_hM_67
        have F2_68 : h2 68 = .inl (1, 256, .inl wA) := (fr2 _ (by omega)).trans F_hM_68
        have P9 : RowIs h2 r RN (bputs RN bb (dirP ws (j + 1))) 0 0 := by rw [dirP_s, bputs_app, hnx]; rw [byt_nI, Nat.mod_eq_of_lt (show 16 * (ws.getD (2 * j) 0) + ws.getD (2 * j + 1) 0 < 256 by omega)] at P2; exact P2
        show WX _ _ _ 48 [(0, .ref 67), (1, .ref r), (2, .int (nI ws.length)), (3, .int (nI (2 * j)))] [] (n, s, h2)
        refine WX.s1 (L' := [(0, .ref 67), (1, .ref r), (2, .int (nI ws.length)), (3, .int ((nI (2 * j)) + 2))]) rfl rfl ?_
        rw [show ((nI (2 * j)) + 2) = nI (2 * j + 2) from nI_add (2 * j) 2]
        refine WX.s1 rfl rfl ?_
        rw [show nI (2 * j + 2) = nI (2 * (j + 1)) from congrArg nI (by omega)]
        exact ih (j + 1) h2 (by omega) (FR_hM.ztr fr2) F2_67 F2_68 P9
  exact lp ((ws.length + 1) / 2) 0 h5 (by omega) FR_h5 F_h5_67 F_h5_68 hR0
set_option maxRecDepth 20000 in
theorem x_dTwo {d n s : Nat} {h : Nat → aE} {be ot r RN o : Nat} {ws : List Nat} {wA : Nat → Int32} {bb : Option (List Nat)} (hn : 190 ≤ n) (hr : r = 77 ∨ r = 79) (hRN : RN < 2 ^ 31) (ho5 : 5 ≤ o) (ho6 : o ≤ 6) (hws : WsOk ws) (hw : ∀ i, i < ws.length → wA i = nI (ws.getD i 0)) (F_h_67 : h 67 = .inr (2, [.ref 68, .ref 69, .ref 70, .ref be, .ref ot])) (F_h_68 : h 68 = .inl (1, 256, .inl wA)) (P_h_row : RowIs h r RN bb 0 0) (P_h_sh : ShT h 70 11 64 o (wsU ws o)) {Ψ : Option Value → aH → Prop} (kk : ∀ h', Fr h h' (fun j => j = r ∨ j = r + 1) → RowIs h' r RN (bputs RN bb (twY ws o)) 0 0 → Ψ none (n, s, h')) : WO (mM (d + 3)) 27 [.ref 67, .ref r, .int (nI ws.length)] (n, s, h) Ψ := by
  refine WO.of (Nat.le_of_ble_eq_true rfl) ?_
  have FR_h : Fr h h (fun j => j = r ∨ j = r + 1) := Fr.rf
  obtain ⟨hw1, hw2, hw3, hw4⟩ := id hws
  have p6 : 2 ^ o ≤ 2 ^ 6 := Nat.pow_le_pow_right (by decide) ho6
  have hlA := (lw_ex hws ho5 (by omega) (show ws.length - 1 < ws.length by omega)).1
  have hlB := (lw_ex hws ho5 (by omega) (show ws.length - 2 < ws.length by omega)).1
  show WX (lk tX2_putTwoStates) (mM (d + 2)) Ψ 0 [(0, .ref 67), (1, .ref r), (2, .int (nI ws.length))] [] (n, s, h)
  refine WX.s1 rfl rfl ?_
  refine WX.get1 (fs := [.ref 68, .ref 69, .ref 70, .ref be, .ref ot]) rfl (by omega) (F_h_67) rfl ?_
  refine WX.s1 rfl rfl ?_
  refine WX.get1 (fs := [.ref 68, .ref 69, .ref 70, .ref be, .ref ot]) rfl (by omega) (F_h_67) rfl ?_
  refine WX.s1 rfl rfl ?_
  refine WX.s1 rfl rfl ?_
  refine WX.s1 (S' := [.int ((nI ws.length) - 2), .ref 68, .ref 70]) rfl rfl ?_
  rw [show nI ws.length - 2 = nI (ws.length - 2) from nI_subN (b := 2) (by omega)]
  refine WX.iald1 rfl (Or.inl (by omega)) (F_h_68) (vp_in_nI (N := 256) (by omega) (by decide)) ?_
  rw [nI_clamp (by omega), hw _ (by omega)]
  refine WX.callC (vs := [.ref 70, .int (nI (ws.getD (ws.length - 2) 0))]) rfl rfl rfl (Nat.le_of_ble_eq_true rfl) (((P_h_sh.toP).toX).rcv (by omega)) ?_
  refine xw_low hn hws ho5 ho6 (by omega) P_h_sh ?_
  show WX _ _ _ 15 [(0, .ref 67), (1, .ref r), (2, .int (nI ws.length))] [.int (nI (lowE (wsU ws o) o (ws.getD (ws.length - 2) 0)))] (n, s, h)
  refine WX.s1 (L' := [(0, .ref 67), (1, .ref r), (2, .int (nI ws.length)), (3, .int (nI (lowE (wsU ws o) o (ws.getD (ws.length - 2) 0))))]) rfl rfl ?_
  refine WX.s1 rfl rfl ?_
  refine WX.get1 (fs := [.ref 68, .ref 69, .ref 70, .ref be, .ref ot]) rfl (by omega) (F_h_67) rfl ?_
  refine WX.s1 rfl rfl ?_
  refine WX.get1 (fs := [.ref 68, .ref 69, .ref 70, .ref be, .ref ot]) rfl (by omega) (F_h_67) rfl ?_
  refine WX.s1 rfl rfl ?_
  refine WX.s1 rfl rfl ?_
  refine WX.s1 (S' := [.int ((nI ws.length) - 1), .ref 68, .ref 70]) rfl rfl ?_
  rw [nI_pm1 (by omega)]
  refine WX.iald1 rfl (Or.inl (by omega)) (F_h_68) (vp_in_nI (N := 256) (by omega) (by decide)) ?_
  rw [nI_clamp (by omega), hw _ (by omega)]
  refine WX.callC (vs := [.ref 70, .int (nI (ws.getD (ws.length - 1) 0))]) rfl rfl rfl (Nat.le_of_ble_eq_true rfl) (((P_h_sh.toP).toX).rcv (by omega)) ?_
  refine xw_low hn hws ho5 ho6 (by omega) P_h_sh ?_
  show WX _ _ _ 31 [(0, .ref 67), (1, .ref r), (2, .int (nI ws.length)), (3, .int (nI (lowE (wsU ws o) o (ws.getD (ws.length - 2) 0))))] [.int (nI (lowE (wsU ws o) o (ws.getD (ws.length - 1) 0)))] (n, s, h)
  refine WX.s1 (L' := [(0, .ref 67), (1, .ref r), (2, .int (nI ws.length)), (3, .int (nI (lowE (wsU ws o) o (ws.getD (ws.length - 2) 0)))), (4, .int (nI (lowE (wsU ws o) o (ws.getD (ws.length - 1) 0))))]) rfl rfl ?_
  refine WX.s1 rfl rfl ?_
  refine WX.s1 rfl rfl ?_
  refine WX.s1 (S' := [.int ((nI ws.length) - 3)]) rfl rfl ?_
  rw [nI_m3q (by omega)]
  refine WX.s1 (L' := [(0, .ref 67), (1, .ref r), (2, .int (nI ws.length)), (3, .int (nI (lowE (wsU ws o) o (ws.getD (ws.length - 2) 0)))), (4, .int (nI (lowE (wsU ws o) o (ws.getD (ws.length - 1) 0)))), (5, .int (qI (ws.length - 2)))]) rfl rfl ?_
  have hW0 := RowW.zero P_h_row
  have lp : ∀ (i a b : Nat) (B : Nat × Nat) (hM : Nat → aE), i + 2 ≤ ws.length → a < 2 ^ o → b < 2 ^ o → Fr h hM (fun j => j = r ∨ j = r + 1) → hM 67 = .inr (2, [.ref 68, .ref 69, .ref 70, .ref be, .ref ot]) → hM 68 = .inl (1, 256, .inl wA) → ShT hM 70 11 64 o (wsU ws o) → RowW hM r RN bb B.1 B.2 → twB (wsU ws o) o ws i a b B = twE ws o (0, 0) → WX (lk tX2_putTwoStates) (mM (d + 2)) Ψ 38 [(0, .ref 67), (1, .ref r), (2, .int (nI ws.length)), (3, .int (nI b)), (4, .int (nI a)), (5, .int (qI i))] [] (n, s, hM) := by
    clear FR_h F_h_67 F_h_68 P_h_row P_h_sh hW0
    intro i
    induction i with
    | zero =>
      intro a b B hM hi ha hb FR_hM F_hM_67 F_hM_68 P_hM_sh P_hM_row hT
      rw [qI0]
      obtain ⟨-, F_hM_70, -⟩ := P_hM_sh.toS
      refine WX.s1 rfl rfl ?_
      refine WX.if_ rfl (fun c_40 => ?_) (fun c_40 => absurd (by decide) c_40)
      refine WX.s1 rfl rfl ?_
      refine WX.s1 rfl rfl ?_
      refine WX.s1 rfl rfl ?_
      refine WX.get1 (fs := [.ref 68, .ref 69, .ref 70, .ref be, .ref ot]) rfl (by omega) (F_hM_67) rfl ?_
      refine WX.get1 (fs := [.int (nI 11), .ref (70 + 1), .ref (70 + 2), .ref (70 + 3), .ref (70 + 4), .ref (70 + 5), .ref (70 + 6), .int (nI o), .int 1]) rfl (by omega) (F_hM_70) rfl ?_
      refine WX.callC (vs := [.ref r, .int (nI a), .int (nI o)]) rfl rfl rfl (Nat.le_of_ble_eq_true rfl) (P_hM_row.2.rcv (by omega)) ?_
      refine w_addW (by omega) P_hM_row hRN (by omega) (by omega) (fun h111 fr111 P_h111_row => ?_)
      have F_h111_67 : h111 67 = .inr (2, [.ref 68, .ref 69, .ref 70, .ref be, .ref ot]) := (fr111 _ (by first | decide | omega)).trans F_hM_67
      have F_h111_68 : h111 68 = .inl (1, 256, .inl wA) := (fr111 _ (by first | decide | omega)).trans F_hM_68
      have F_h111_70 : h111 70 = .inr (8, [.int (nI 11), .ref (70 + 1), .ref (70 + 2), .ref (70 + 3), .ref (70 + 4), .ref (70 + 5), .ref (70 + 6), .int (nI o), .int 1]) := (fr111 _ (by first | decide | omega)).trans F_hM_70
      have P_h111_sh : ShT h111 70 11 64 o (wsU ws o) := P_hM_sh.zfr fr111 (fun j h1 h2 => by omega)
      have FR_h111 : Fr h h111 (fun j => j = r ∨ j = r + 1) := FR_hM.zsub fr111 (fun j hj => by first | exact hj | exact Or.inl hj | exact Or.inr hj | omega)
      show WX _ _ _ 114 [(0, .ref 67), (1, .ref r), (2, .int (nI ws.length)), (3, .int (nI b)), (4, .int (nI a)), (5, .int (-1))] [] (n, s, h111)
      refine WX.s1 rfl rfl ?_
      refine WX.s1 rfl rfl ?_
      refine WX.s1 rfl rfl ?_
      refine WX.get1 (fs := [.ref 68, .ref 69, .ref 70, .ref be, .ref ot]) rfl (by omega) (F_h111_67) rfl ?_
      refine WX.get1 (fs := [.int (nI 11), .ref (70 + 1), .ref (70 + 2), .ref (70 + 3), .ref (70 + 4), .ref (70 + 5), .ref (70 + 6), .int (nI o), .int 1]) rfl (by omega) (F_h111_70) rfl ?_
      refine WX.callC (vs := [.ref r, .int (nI b), .int (nI o)]) rfl rfl rfl (Nat.le_of_ble_eq_true rfl) (P_h111_row.2.rcv (by omega)) ?_
      refine w_addW (by omega) P_h111_row hRN (by omega) (by omega) (fun h123 fr123 P_h123_row => ?_)
      have F_h123_67 : h123 67 = .inr (2, [.ref 68, .ref 69, .ref 70, .ref be, .ref ot]) := (fr123 _ (by first | decide | omega)).trans F_h111_67
      have F_h123_68 : h123 68 = .inl (1, 256, .inl wA) := (fr123 _ (by first | decide | omega)).trans F_h111_68
      have F_h123_70 : h123 70 = .inr (8, [.int (nI 11), .ref (70 + 1), .ref (70 + 2), .ref (70 + 3), .ref (70 + 4), .ref (70 + 5), .ref (70 + 6), .int (nI o), .int 1]) := (fr123 _ (by first | decide | omega)).trans F_h111_70
      have P_h123_sh : ShT h123 70 11 64 o (wsU ws o) := P_h111_sh.zfr fr123 (fun j h1 h2 => by omega)
      have FR_h123 : Fr h h123 (fun j => j = r ∨ j = r + 1) := FR_h111.zsub fr123 (fun j hj => by first | exact hj | exact Or.inl hj | exact Or.inr hj | omega)
      show WX _ _ _ 126 [(0, .ref 67), (1, .ref r), (2, .int (nI ws.length)), (3, .int (nI b)), (4, .int (nI a)), (5, .int (-1))] [] (n, s, h123)
      refine WX.s1 rfl rfl ?_
      have hQ : (addB (addB B a o) b o) = twE ws o (0, 0) := hT
      have P8 : RowW h123 r RN bb (addB (addB B a o) b o).1 (addB (addB B a o) b o).2 := P_h123_row
      rw [hQ] at P8
      refine WX.callC (vs := [.ref r]) rfl rfl rfl (Nat.le_of_ble_eq_true rfl) (P8.2.rcv (by omega)) ?_
      refine w_endW (by omega) hRN P8 (fun h9 fr9 P9 => ?_)
      exact WX.ret0 rfl (kk h9 (FR_h123.ztr fr9) P9)
    | succ i ih =>
      intro a b B hM hi ha hb FR_hM F_hM_67 F_hM_68 P_hM_sh P_hM_row hT
      rw [qIs]
      refine WX.s1 rfl rfl ?_
      refine WX.if_ rfl (fun c_40 => absurd c_40 (fun zz_ => absurd ((nI_ltI (a := i) (b := 0) (by omega) (by omega)).mp zz_) (Nat.not_lt.mpr (by omega)))) (fun c_40 => ?_)
      clear c_40
      refine WX.s1 rfl rfl ?_
      refine WX.get1 (fs := [.ref 68, .ref 69, .ref 70, .ref be, .ref ot]) rfl (by omega) (F_hM_67) rfl ?_
      refine WX.s1 rfl rfl ?_
      refine WX.get1 (fs := [.ref 68, .ref 69, .ref 70, .ref be, .ref ot]) rfl (by omega) (F_hM_67) rfl ?_
      refine WX.s1 rfl rfl ?_
      refine WX.iald1 rfl (Or.inl (by omega)) (F_hM_68) (vp_in_nI (N := 256) (by omega) (by decide)) ?_
      rw [nI_clamp (by omega), hw _ (by omega)]
      refine WX.s1 rfl rfl ?_
      refine WX.callC (vs := [.ref 70, .int (nI (ws.getD i 0)), .int (nI a)]) rfl rfl rfl (Nat.le_of_ble_eq_true rfl) (((P_hM_sh.toP).toX).rcv (by omega)) ?_
      refine xw_wid hn hws ho5 ho6 (by omega) ha P_hM_sh (fun nw1 nw2 => ?_)
      show WX _ _ _ 59 [(0, .ref 67), (1, .ref r), (2, .int (nI ws.length)), (3, .int (nI b)), (4, .int (nI a)), (5, .int (nI i))] [.int (nI (nxW (wsU ws o) o (ws.getD i 0) a))] (n, s, hM)
      refine WX.s1 (L' := [(0, .ref 67), (1, .ref r), (2, .int (nI ws.length)), (3, .int (nI b)), (4, .int (nI a)), (5, .int (nI i)), (6, .int (nI (nxW (wsU ws o) o (ws.getD i 0) a)))]) rfl rfl ?_
      refine WX.s1 rfl rfl ?_
      refine WX.s1 rfl rfl ?_
      refine WX.s1 rfl rfl ?_
      refine WX.callC (vs := [.ref r, .int (nI a), .int (nI (nxW (wsU ws o) o (ws.getD i 0) a))]) rfl rfl rfl (Nat.le_of_ble_eq_true rfl) (P_hM_row.2.rcv (by omega)) ?_
      refine w_addW (by omega) P_hM_row hRN (by omega) (by omega) (fun h66 fr66 P_h66_row => ?_)
      have F_h66_67 : h66 67 = .inr (2, [.ref 68, .ref 69, .ref 70, .ref be, .ref ot]) := (fr66 _ (by first | decide | omega)).trans F_hM_67
      have F_h66_68 : h66 68 = .inl (1, 256, .inl wA) := (fr66 _ (by first | decide | omega)).trans F_hM_68
      have P_h66_sh : ShT h66 70 11 64 o (wsU ws o) := P_hM_sh.zfr fr66 (fun j h1 h2 => by omega)
      have FR_h66 : Fr h h66 (fun j => j = r ∨ j = r + 1) := FR_hM.zsub fr66 (fun j hj => by first | exact hj | exact Or.inl hj | exact Or.inr hj | omega)
      show WX _ _ _ 69 [(0, .ref 67), (1, .ref r), (2, .int (nI ws.length)), (3, .int (nI b)), (4, .int (nI a)), (5, .int (nI i)), (6, .int (nI (nxW (wsU ws o) o (ws.getD i 0) a)))] [] (n, s, h66)
      refine WX.s1 rfl rfl ?_
      refine WX.get1 (fs := [.ref 68, .ref 69, .ref 70, .ref be, .ref ot]) rfl (by omega) (F_h66_67) rfl ?_
      refine WX.s1 rfl rfl ?_
      refine WX.get1 (fs := [.ref 68, .ref 69, .ref 70, .ref be, .ref ot]) rfl (by omega) (F_h66_67) rfl ?_
      refine WX.s1 rfl rfl ?_
      refine WX.iald1 rfl (Or.inl (by omega)) (F_h66_68) (vp_in_nI (N := 256) (by omega) (by decide)) ?_
      rw [nI_clamp (by omega), hw _ (by omega)]
      refine WX.s1 rfl rfl ?_
      refine WX.s1 rfl rfl ?_
      refine WX.callC (vs := [.ref 70, .int (nI (ws.getD i 0)), .int (nI a), .int (nI (nxW (wsU ws o) o (ws.getD i 0) a))]) rfl rfl rfl (Nat.le_of_ble_eq_true rfl) (((P_h66_sh.toP).toX).rcv (by omega)) ?_
      refine xw_bef hn hws ho5 ho6 (by omega) ha P_h66_sh ?_
      show WX _ _ _ 87 [(0, .ref 67), (1, .ref r), (2, .int (nI ws.length)), (3, .int (nI b)), (4, .int (nI a)), (5, .int (nI i)), (6, .int (nI (nxW (wsU ws o) o (ws.getD i 0) a)))] [.int (nI (nxP (wsU ws o) o (ws.getD i 0) a))] (n, s, h66)
      refine WX.s1 (L' := [(0, .ref 67), (1, .ref r), (2, .int (nI ws.length)), (3, .int (nI b)), (4, .int (nI a)), (5, .int (nI i)), (6, .int (nI (nxW (wsU ws o) o (ws.getD i 0) a))), (7, .int (nI (nxP (wsU ws o) o (ws.getD i 0) a)))]) rfl rfl ?_
      refine WX.s1 rfl rfl ?_
      refine WX.s1 (L' := [(0, .ref 67), (1, .ref r), (2, .int (nI ws.length)), (3, .int (nI b)), (4, .int (nI b)), (5, .int (nI i)), (6, .int (nI (nxW (wsU ws o) o (ws.getD i 0) a))), (7, .int (nI (nxP (wsU ws o) o (ws.getD i 0) a)))]) rfl rfl ?_
      refine WX.s1 rfl rfl ?_
      refine WX.s1 (L' := [(0, .ref 67), (1, .ref r), (2, .int (nI ws.length)), (3, .int (nI (nxP (wsU ws o) o (ws.getD i 0) a))), (4, .int (nI b)), (5, .int (nI i)), (6, .int (nI (nxW (wsU ws o) o (ws.getD i 0) a))), (7, .int (nI (nxP (wsU ws o) o (ws.getD i 0) a)))]) rfl rfl ?_
      refine WX.s1 (L' := [(0, .ref 67), (1, .ref r), (2, .int (nI ws.length)), (3, .int (nI (nxP (wsU ws o) o (ws.getD i 0) a))), (4, .int (nI b)), (5, .int ((nI i) + (-1))), (6, .int (nI (nxW (wsU ws o) o (ws.getD i 0) a))), (7, .int (nI (nxP (wsU ws o) o (ws.getD i 0) a)))]) rfl rfl ?_
      rw [show (nI i) + (-1) = qI i from qI_dec i]
      refine WX.keep (y := 27) [0, 1, 2, 3, 4, 5] (show ([0, 1, 2, 3, 4, 5, 6, 7] : List Nat).Nodup by decide) rfl ?_
      refine WX.s1 rfl rfl ?_
      exact ih b (nxP (wsU ws o) o (ws.getD i 0) a) (addB B a (nxW (wsU ws o) o (ws.getD i 0) a)) h66 (by omega) hb nw2 FR_h66 F_h66_67 F_h66_68 P_h66_sh P_h66_row hT
  exact lp (ws.length - 2) _ _ (0, 0) h (by omega) hlA hlB FR_h F_h_67 F_h_68 P_h_sh hW0 rfl
