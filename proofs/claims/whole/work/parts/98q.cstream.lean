/-! a column's states and tables, put -/
def ColR (h : Nat → aE) (c j k G l M NB NW : Nat) (B sy wd : Nat → Nat) (vs : List Nat) (t : Tb) (md sta : Nat) : Prop := ∃ bi ob : Int32, h c = .inr (1, [.ref (aBig + j), .ref (aBig + k), .int (nI G), .ref (c + 1), .ref (c + 2), .ref (c + 5), .int (nI vs.length), .int (nI (colF sy wd vs).2.1), .int (nI (colF sy wd vs).2.2), .ref (c + 6), .ref (c + 13), .ref (c + 20), .ref (CHO c md), .ref (c + 3), .int (nI md), .int bi, .int ob, .int (nI sta)]) ∧ ColA h c l sy wd vs ∧ ShT h (CHO c md) l M t.1 t.2 ∧ ColP h j k l NB NW B sy wd
theorem cho_in (c md : Nat) : c + 6 ≤ CHO c md ∧ CHO c md + 6 ≤ c + 26 := by
  unfold CHO
  split
  · omega
  · split <;> omega
theorem ColR.zfr {h h1 : Nat → aE} {A : Nat → Prop} {c j k G l M NB NW : Nat} {B sy wd : Nat → Nat} {vs : List Nat} {t : Tb} {md sta : Nat} (r : ColR h c j k G l M NB NW B sy wd vs t md sta) (f : Fr h h1 A) (q : ∀ x, c ≤ x → x ≤ c + 26 → ¬ A x) (q1 : ¬ A (aBig + j)) (q2 : ¬ A (aBig + k)) : ColR h1 c j k G l M NB NW B sy wd vs t md sta := by
  obtain ⟨bi, ob, F, A1, S, P⟩ := r
  have hc := cho_in c md
  exact ⟨bi, ob, (f c (q c (by omega) (by omega))).trans F, A1.zfr f (q _ (by omega) (by omega)) (q _ (by omega) (by omega)) (q _ (by omega) (by omega)), S.zfr f (fun x h1 h2 => q x (by omega) (by omega)), P.zfr f q1 q2⟩
theorem ColR.rcv {n s : Nat} {h : Nat → aE} {c j k G l M NB NW : Nat} {B sy wd : Nat → Nat} {vs : List Nat} {t : Tb} {md sta : Nat} {vl : List Value} (r : ColR h c j k G l M NB NW B sy wd vs t md sta) (hk : c < n) : rcv 2 (.ref c :: vl) (n, s, h) = true := by
  obtain ⟨bi, ob, F, -⟩ := r
  exact rcv_ok hk F
def CvOk (l M : Nat) (B sy wd : Nat → Nat) (vs : List Nat) (t : Tb) (N : Nat) : Prop := vs.length = N ∧ ClOk (clm t sy wd B vs) N ∧ TbOk l M t ∧ l < 64 ∧ M < 2 ^ 20 ∧ ∀ v, v ∈ vs → v ≤ 16003 ∧ B (sy v) ≤ v
theorem map_getD {sy : Nat → Nat} {vs : List Nat} {i : Nat} (h : i < vs.length) : (vs.map sy).getD i 0 = sy (vs.getD i 0) := by
  rw [List.getD_eq_getElem?_getD, List.getD_eq_getElem?_getD, List.getElem?_map, List.getElem?_eq_getElem h]
  rfl
theorem ShT.toS {h : Nat → aE} {k l M o : Nat} {u : Nat → Nat} (r : ShT h k l M o u) : ShS h k l M o u ∧ h k = .inr (8, [.int (nI l), .ref (k + 1), .ref (k + 2), .ref (k + 3), .ref (k + 4), .ref (k + 5), .ref (k + 6), .int (nI o), .int 1]) ∧ mSum u (l + 1) = 2 ^ o := by
  obtain ⟨pA, rA, fA, wA, oA, sA, ⟨F0, F1, F2, F3, F4, F5, F6⟩, T1, T2, T3, T4, T5, T6⟩ := r
  exact ⟨⟨pA, fA, wA, sA, F1, F3, F4, F6, T1, T2, T3, T5⟩, F0, T6⟩
theorem cv_at {l M : Nat} {B sy wd : Nat → Nat} {vs : List Nat} {t : Tb} {N i : Nat} (h : CvOk l M B sy wd vs t N) (hi : i < N) : (clm t sy wd B vs).2.1.getD i 0 = sy (vs.getD i 0) ∧ vs.getD i 0 ∈ vs ∧ massU (t.2 (sy (vs.getD i 0))) ≠ 0 := by
  obtain ⟨h1, h2, -⟩ := h
  have e : (clm t sy wd B vs).2.1.getD i 0 = sy (vs.getD i 0) := map_getD (by omega)
  have q := (h2.2.2.2.2.1 _ (getD_mem (show i < (clm t sy wd B vs).2.1.length by rw [h2.2.2.2.1]; exact hi))).2
  rw [e] at q
  exact ⟨e, getD_mem (by omega), q⟩
theorem xt_lowest {d n s : Nat} {h : Nat → aE} {k l M N i : Nat} {B sy wd : Nat → Nat} {vs : List Nat} {t : Tb} (hk : k + 6 < n) (hv : CvOk l M B sy wd vs t N) (hi : i + 1 = N) (hs : sy (vs.getD i 0) ≤ l) (P : ShT h k l M t.1 t.2) {Ψ : Option Value → aH → Prop} (kk : Ψ (some (.int (nI (pF (clm t sy wd B vs) i)))) (n, s, h)) : WO (mM (d + 1)) 107 [.ref k, .int (nI (sy (vs.getD i 0)))] (n, s, h) Ψ := by
  obtain ⟨h1, h2, h3, h4, h5, h6⟩ := id hv
  obtain ⟨e1, e2, e3⟩ := cv_at hv (show i < N by omega)
  obtain ⟨p1, p2, p3⟩ := P.toS
  obtain ⟨t1, t2, t3, t4, t5⟩ := id h3
  refine x_lowest hk h4 t1 t2 t3 h5 t5 p1 hs e3 p2 (fun p hp => ?_)
  have hq : IsLow t.2 64 t.1 (sy (vs.getD i 0)) p := (low_pad (tb_pad h3 h4).2).mpr hp
  rw [← e1] at hq
  rw [pf_lowE h2 hi hq]
  exact kk
theorem xt_width {d n s : Nat} {h : Nat → aE} {k l M N i : Nat} {B sy wd : Nat → Nat} {vs : List Nat} {t : Tb} (hk : k + 6 < n) (hv : CvOk l M B sy wd vs t N) (hi : i + 1 < N) (hs : sy (vs.getD i 0) ≤ l) (P : ShT h k l M t.1 t.2) {Ψ : Option Value → aH → Prop} (kk : Ψ (some (.int (nI (vF (clm t sy wd B vs) i)))) (n, s, h)) : WO (mM (d + 1)) 108 [.ref k, .int (nI (sy (vs.getD i 0))), .int (nI (pF (clm t sy wd B vs) (i + 1)))] (n, s, h) Ψ := by
  obtain ⟨h1, h2, h3, h4, h5, h6⟩ := id hv
  obtain ⟨e1, e2, e3⟩ := cv_at hv (show i < N by omega)
  obtain ⟨p1, p2, p3⟩ := P.toS
  obtain ⟨t1, t2, t3, t4, t5⟩ := id h3
  refine x_width hk h4 t1 t2 t3 h5 t5 p1 hs e3 (pf_row h2 hi).2 p2 (fun V p hp => ?_)
  have hq : IsNx t.2 64 t.1 (sy (vs.getD i 0)) (pF (clm t sy wd B vs) (i + 1)) p V := (nx_pad (tb_pad h3 h4).2).mpr hp
  rw [← e1] at hq
  rw [(pf_nxE h2 hi hq).2]
  exact kk
theorem xt_before {d n s : Nat} {h : Nat → aE} {k l M N i : Nat} {B sy wd : Nat → Nat} {vs : List Nat} {t : Tb} (hk : k + 6 < n) (hv : CvOk l M B sy wd vs t N) (hi : i + 1 < N) (hs : sy (vs.getD i 0) ≤ l) (P : ShT h k l M t.1 t.2) {Ψ : Option Value → aH → Prop} (kk : Ψ (some (.int (nI (pF (clm t sy wd B vs) i)))) (n, s, h)) : WO (mM (d + 1)) 109 [.ref k, .int (nI (sy (vs.getD i 0))), .int (nI (pF (clm t sy wd B vs) (i + 1))), .int (nI (vF (clm t sy wd B vs) i))] (n, s, h) Ψ := by
  obtain ⟨h1, h2, h3, h4, h5, h6⟩ := id hv
  obtain ⟨e1, e2, e3⟩ := cv_at hv (show i < N by omega)
  obtain ⟨p1, p2, p3⟩ := P.toS
  obtain ⟨t1, t2, t3, t4, t5⟩ := id h3
  have hq := pf_nx h2 hi
  rw [e1] at hq
  exact x_before hk h4 t1 t2 t3 h5 t5 p1 hs e3 (pf_row h2 hi).2 ((nx_pad (tb_pad h3 h4).2).mp hq) p2 kk
noncomputable def tbY (ss : List Nat) (G md : Nat) : List Nat := leBy (mdB ss G md).2 ((mdB ss G md).1 / 8)
theorem tbY_1 (ss : List Nat) (G : Nat) : tbY ss G 1 = leBy (ss.getD 0 0) 1 := by
  have q : mdB ss G 1 = (8, ss.getD 0 0) := by unfold mdB; rw [if_pos rfl]
  unfold tbY
  rw [q]
  show leBy (ss.getD 0 0) (8 / 8) = _
  rw [show (8 : Nat) / 8 = 1 by decide]
theorem tbY_2 (ss : List Nat) (G : Nat) : tbY ss G 2 = leBy (shB (wU (cdF ss).1 (boF ss (G - 4)).1 64) (boF ss (G - 4)).1 (0, 0)).2 (((shB (wU (cdF ss).1 (boF ss (G - 4)).1 64) (boF ss (G - 4)).1 (0, 0)).1 + 7) / 8) := by
  have q : mdB ss G 2 = (8 * (((shB (wU (cdF ss).1 (boF ss (G - 4)).1 64) (boF ss (G - 4)).1 (0, 0)).1 + 7) / 8), (shB (wU (cdF ss).1 (boF ss (G - 4)).1 64) (boF ss (G - 4)).1 (0, 0)).2) := by unfold mdB; rw [if_neg (by decide), if_pos rfl]
  unfold tbY
  rw [q]
  show leBy _ (8 * _ / 8) = _
  rw [Nat.mul_div_cancel_left _ (by decide)]
theorem slice_all (l : List Nat) : sliceL l 0 l.length = l := by
  unfold sliceL
  simp only [Nat.sub_zero, Nat.zero_add]
  refine List.ext_getElem (by simp) (fun i h1 h2 => ?_)
  simp [h2]

set_option maxRecDepth 20000 in
theorem x_beginStates {d n s : Nat} {h : Nat → aE} {c j k G l M NB NW md : Nat} {B sy wd : Nat → Nat} {vs : List Nat} {t : Tb} {N : Nat} {sta : Nat}  (hc : c + 26 < n) (hnb : n < aBig) (hv : CvOk l M B sy wd vs t N) (hN : 1 ≤ N) (hN2 : N ≤ 2667) (hC : ColR h c j k G l M NB NW B sy wd vs t md sta)   {Ψ : Option Value → aH → Prop} (kk : ∀ h', Fr h h' (fun j => j = c) → ColR h' c j k G l M NB NW B sy wd vs t md (pF (clm t sy wd B vs) (N - 1)) → Ψ none (n, s, h')) : WO (mM (d + 2)) 18 [.ref c] (n, s, h) Ψ := by
  refine WO.of (Nat.le_of_ble_eq_true rfl) ?_
  have FR_h : Fr h h (fun j => j = c) := Fr.rf
  obtain ⟨bi, ob, F_h_c, ⟨sA, vA, cA, F_h__c_1_, F_h__c_2_, F_h__c_5_, hAi, hAc⟩, P_h_sh, hP⟩ := hC
  have hcho := cho_in c md
  obtain ⟨hv1, hv2, hv3, hv4, hv5, hv6⟩ := id hv
  obtain ⟨bA, wA, F_h__aBig_j_, F_h__aBig_k_, hB, hW, hsy, hNB, hNW, hl1, hwd, hj, hk⟩ := id hP
  have hBg : aBig = 1000000 := rfl
  have hi := hAi (N - 1) (by omega)
  have hm := (cv_at hv (show N - 1 < N by omega)).2.1
  have hsl := hsy _ (hv6 _ hm).1
  show WX (lk tX1_beginStates) (mM (d + 1)) Ψ 0 [(0, .ref c)] [] (n, s, h)
  refine WX.s1 rfl rfl ?_
  refine WX.s1 rfl rfl ?_
  refine WX.get1 (fs := [.ref (aBig + j), .ref (aBig + k), .int (nI G), .ref (c + 1), .ref (c + 2), .ref (c + 5), .int (nI vs.length), .int (nI (colF sy wd vs).2.1), .int (nI (colF sy wd vs).2.2), .ref (c + 6), .ref (c + 13), .ref (c + 20), .ref (CHO c md), .ref (c + 3), .int (nI md), .int bi, .int ob, .int (nI sta)]) rfl (by omega) (F_h_c) rfl ?_
  refine WX.if_ rfl (fun c_5 => absurd c_5 (fun z => absurd ((nI_leI (a := vs.length) (b := 0) (by omega) (by decide)).mp z) (by omega))) (fun c_5 => ?_)
  refine WX.s1 rfl rfl ?_
  refine WX.get1 (fs := [.ref (aBig + j), .ref (aBig + k), .int (nI G), .ref (c + 1), .ref (c + 2), .ref (c + 5), .int (nI vs.length), .int (nI (colF sy wd vs).2.1), .int (nI (colF sy wd vs).2.2), .ref (c + 6), .ref (c + 13), .ref (c + 20), .ref (CHO c md), .ref (c + 3), .int (nI md), .int bi, .int ob, .int (nI sta)]) rfl (by omega) (F_h_c) rfl ?_
  refine WX.s1 rfl rfl ?_
  refine WX.get1 (fs := [.ref (aBig + j), .ref (aBig + k), .int (nI G), .ref (c + 1), .ref (c + 2), .ref (c + 5), .int (nI vs.length), .int (nI (colF sy wd vs).2.1), .int (nI (colF sy wd vs).2.2), .ref (c + 6), .ref (c + 13), .ref (c + 20), .ref (CHO c md), .ref (c + 3), .int (nI md), .int bi, .int ob, .int (nI sta)]) rfl (by omega) (F_h_c) rfl ?_
  refine WX.s1 rfl rfl ?_
  refine WX.get1 (fs := [.ref (aBig + j), .ref (aBig + k), .int (nI G), .ref (c + 1), .ref (c + 2), .ref (c + 5), .int (nI vs.length), .int (nI (colF sy wd vs).2.1), .int (nI (colF sy wd vs).2.2), .ref (c + 6), .ref (c + 13), .ref (c + 20), .ref (CHO c md), .ref (c + 3), .int (nI md), .int bi, .int ob, .int (nI sta)]) rfl (by omega) (F_h_c) rfl ?_
  refine WX.s1 rfl rfl ?_
  refine WX.s1 (S' := [.int ((nI vs.length) - 1), .ref (c + 1), .ref (CHO c md), .ref c]) rfl rfl ?_
  rw [nI_pm1 (by omega), hv1]
  refine WX.iald1 rfl (Or.inl (by omega)) (F_h__c_1_) (vp_in_nI (N := 2667) (by omega) (by decide)) ?_
  rw [nI_clamp (by omega), hi.1]
  refine WX.callC (vs := [.ref (CHO c md), .int (nI (sy (vs.getD (N - 1) 0)))]) rfl rfl rfl (Nat.le_of_ble_eq_true rfl) (((P_h_sh.toP).toX).rcv (by omega)) ?_
  refine xt_lowest (by omega) hv (by omega) hsl.2.1 P_h_sh ?_
  show WX _ _ _ 26 [(0, .ref c)] [.int (nI (pF (clm t sy wd B vs) (N - 1))), .ref c] (n, s, h)
  refine WX.s1 rfl rfl ?_
  refine WX.put1 (fs := [.ref (aBig + j), .ref (aBig + k), .int (nI G), .ref (c + 1), .ref (c + 2), .ref (c + 5), .int (nI vs.length), .int (nI (colF sy wd vs).2.1), .int (nI (colF sy wd vs).2.2), .ref (c + 6), .ref (c + 13), .ref (c + 20), .ref (CHO c md), .ref (c + 3), .int (nI md), .int bi, .int ob, .int (nI sta)]) (fs' := [.ref (aBig + j), .ref (aBig + k), .int (nI G), .ref (c + 1), .ref (c + 2), .ref (c + 5), .int (nI vs.length), .int (nI (colF sy wd vs).2.1), .int (nI (colF sy wd vs).2.2), .ref (c + 6), .ref (c + 13), .ref (c + 20), .ref (CHO c md), .ref (c + 3), .int (nI md), .int bi, .int ob, .int (nI (pF (clm t sy wd B vs) (N - 1)))]) rfl (by omega) (F_h_c) (Nat.le_of_ble_eq_true rfl) (rfl) rfl (fun h30 e_h30 => ?_)
  have F_h30_c : h30 c = .inr (1, [.ref (aBig + j), .ref (aBig + k), .int (nI G), .ref (c + 1), .ref (c + 2), .ref (c + 5), .int (nI vs.length), .int (nI (colF sy wd vs).2.1), .int (nI (colF sy wd vs).2.2), .ref (c + 6), .ref (c + 13), .ref (c + 20), .ref (CHO c md), .ref (c + 3), .int (nI md), .int bi, .int ob, .int (nI (pF (clm t sy wd B vs) (N - 1)))]) := by rw [e_h30]; exact va_up_eq
  have F_h30__c_1_ : h30 (c + 1) = .inl (1, 2667, .inl sA) := by rw [e_h30, va_up_neq (nek0 (a := 1) (by decide))]; exact F_h__c_1_
  have F_h30__c_2_ : h30 (c + 2) = .inl (1, 2667, .inl vA) := by rw [e_h30, va_up_neq (nek0 (a := 2) (by decide))]; exact F_h__c_2_
  have F_h30__c_5_ : h30 (c + 5) = .inl (1, (l + 1), .inl cA) := by rw [e_h30, va_up_neq (nek0 (a := 5) (by decide))]; exact F_h__c_5_
  have F_h30__aBig_j_ : h30 (aBig + j) = .inl (1, NB, .inl bA) := by rw [e_h30, va_up_neq (by omega)]; exact F_h__aBig_j_
  have F_h30__aBig_k_ : h30 (aBig + k) = .inl (1, NW, .inl wA) := by rw [e_h30, va_up_neq (by omega)]; exact F_h__aBig_k_
  have P_h30_sh : ShT h30 (CHO c md) l M t.1 t.2 := P_h_sh.zfr (Fr.of e_h30) (fun j h1 h2 => by omega)
  have FR_h30 : Fr h h30 (fun j => j = c) := FR_h.zup e_h30 (by first | exact rfl | exact Or.inl rfl | exact Or.inr rfl | exact ⟨by decide, by decide⟩ | decide | omega)
  clear F_h_c F_h__c_1_ F_h__c_2_ F_h__c_5_ F_h__aBig_j_ F_h__aBig_k_ P_h_sh FR_h e_h30
  exact WX.ret0 rfl (kk h30 FR_h30 ⟨bi, ob, F_h30_c, ⟨sA, vA, cA, F_h30__c_1_, F_h30__c_2_, F_h30__c_5_, hAi, hAc⟩, P_h30_sh, ⟨bA, wA, F_h30__aBig_j_, F_h30__aBig_k_, hB, hW, hsy, hNB, hNW, hl1, hwd, hj, hk⟩⟩)
set_option maxRecDepth 20000 in
theorem x_putState {d n s : Nat} {h : Nat → aE} {c j k G l M NB NW md : Nat} {B sy wd : Nat → Nat} {vs : List Nat} {t : Tb} {N : Nat} {i : Nat} {r RN kb wb : Nat} {bb : Option (List Nat)}  (hc : c + 26 < n) (hnb : n < aBig) (hv : CvOk l M B sy wd vs t N) (hr : r + 1 < c) (hRN : RN < 2 ^ 31) (hi : i + 1 < N) (hN2 : N ≤ 2667) (hC : ColR h c j k G l M NB NW B sy wd vs t md (pF (clm t sy wd B vs) (i + 1)))  (P_h_row : RowW h r RN bb kb wb) {Ψ : Option Value → aH → Prop} (kk : ∀ h', Fr h h' (fun j => j = c ∨ j = r ∨ j = r + 1) → ColR h' c j k G l M NB NW B sy wd vs t md (pF (clm t sy wd B vs) i) → RowW h' r RN bb (stB (clm t sy wd B vs) i (kb, wb)).1 (stB (clm t sy wd B vs) i (kb, wb)).2 → Ψ none (n, s, h')) : WO (mM (d + 2)) 19 [.ref c, .ref r, .int (nI i)] (n, s, h) Ψ := by
  refine WO.of (Nat.le_of_ble_eq_true rfl) ?_
  have FR_h : Fr h h (fun j => j = c ∨ j = r ∨ j = r + 1) := Fr.rf
  obtain ⟨bi, ob, F_h_c, ⟨sA, vA, cA, F_h__c_1_, F_h__c_2_, F_h__c_5_, hAi, hAc⟩, P_h_sh, hP⟩ := hC
  have hcho := cho_in c md
  obtain ⟨hv1, hv2, hv3, hv4, hv5, hv6⟩ := id hv
  obtain ⟨bA, wA, F_h__aBig_j_, F_h__aBig_k_, hB, hW, hsy, hNB, hNW, hl1, hwd, hj, hk⟩ := id hP
  have hBg : aBig = 1000000 := rfl
  have hii := hAi i (by omega)
  have hm := (cv_at hv (show i < N by omega)).2.1
  have hsl := hsy _ (hv6 _ hm).1
  have hvl := vf_le hv2 hi
  have hst := (pf_row hv2 hi).2
  have ht9 : t.1 ≤ 9 := hv3.2.1
  have hp9 : 2 ^ t.1 ≤ 2 ^ 9 := Nat.pow_le_pow_right (by decide) ht9
  have hvl2 : vF (clm t sy wd B vs) i ≤ t.1 := hvl
  have hst2 : pF (clm t sy wd B vs) (i + 1) < 2 ^ t.1 := hst
  show WX (lk tX1_putState) (mM (d + 1)) Ψ 0 [(0, .ref c), (1, .ref r), (2, .int (nI i))] [] (n, s, h)
  refine WX.s1 rfl rfl ?_
  refine WX.get1 (fs := [.ref (aBig + j), .ref (aBig + k), .int (nI G), .ref (c + 1), .ref (c + 2), .ref (c + 5), .int (nI vs.length), .int (nI (colF sy wd vs).2.1), .int (nI (colF sy wd vs).2.2), .ref (c + 6), .ref (c + 13), .ref (c + 20), .ref (CHO c md), .ref (c + 3), .int (nI md), .int bi, .int ob, .int (nI (pF (clm t sy wd B vs) (i + 1)))]) rfl (by omega) (F_h_c) rfl ?_
  refine WX.s1 rfl rfl ?_
  refine WX.iald1 rfl (Or.inl (by omega)) (F_h__c_1_) (vp_in_nI (N := 2667) (by omega) (by decide)) ?_
  rw [nI_clamp (by omega), hii.1]
  refine WX.s1 (L' := [(0, .ref c), (1, .ref r), (2, .int (nI i)), (3, .int (nI (sy (vs.getD i 0))))]) rfl rfl ?_
  refine WX.s1 rfl rfl ?_
  refine WX.get1 (fs := [.ref (aBig + j), .ref (aBig + k), .int (nI G), .ref (c + 1), .ref (c + 2), .ref (c + 5), .int (nI vs.length), .int (nI (colF sy wd vs).2.1), .int (nI (colF sy wd vs).2.2), .ref (c + 6), .ref (c + 13), .ref (c + 20), .ref (CHO c md), .ref (c + 3), .int (nI md), .int bi, .int ob, .int (nI (pF (clm t sy wd B vs) (i + 1)))]) rfl (by omega) (F_h_c) rfl ?_
  refine WX.s1 rfl rfl ?_
  refine WX.s1 rfl rfl ?_
  refine WX.get1 (fs := [.ref (aBig + j), .ref (aBig + k), .int (nI G), .ref (c + 1), .ref (c + 2), .ref (c + 5), .int (nI vs.length), .int (nI (colF sy wd vs).2.1), .int (nI (colF sy wd vs).2.2), .ref (c + 6), .ref (c + 13), .ref (c + 20), .ref (CHO c md), .ref (c + 3), .int (nI md), .int bi, .int ob, .int (nI (pF (clm t sy wd B vs) (i + 1)))]) rfl (by omega) (F_h_c) rfl ?_
  refine WX.callC (vs := [.ref (CHO c md), .int (nI (sy (vs.getD i 0))), .int (nI (pF (clm t sy wd B vs) (i + 1)))]) rfl rfl rfl (Nat.le_of_ble_eq_true rfl) (((P_h_sh.toP).toX).rcv (by omega)) ?_
  refine xt_width (by omega) hv hi hsl.2.1 P_h_sh ?_
  show WX _ _ _ 19 [(0, .ref c), (1, .ref r), (2, .int (nI i)), (3, .int (nI (sy (vs.getD i 0))))] [.int (nI (vF (clm t sy wd B vs) i))] (n, s, h)
  refine WX.s1 (L' := [(0, .ref c), (1, .ref r), (2, .int (nI i)), (3, .int (nI (sy (vs.getD i 0)))), (4, .int (nI (vF (clm t sy wd B vs) i)))]) rfl rfl ?_
  refine WX.s1 rfl rfl ?_
  refine WX.s1 rfl rfl ?_
  refine WX.get1 (fs := [.ref (aBig + j), .ref (aBig + k), .int (nI G), .ref (c + 1), .ref (c + 2), .ref (c + 5), .int (nI vs.length), .int (nI (colF sy wd vs).2.1), .int (nI (colF sy wd vs).2.2), .ref (c + 6), .ref (c + 13), .ref (c + 20), .ref (CHO c md), .ref (c + 3), .int (nI md), .int bi, .int ob, .int (nI (pF (clm t sy wd B vs) (i + 1)))]) rfl (by omega) (F_h_c) rfl ?_
  refine WX.s1 rfl rfl ?_
  refine WX.callC (vs := [.ref r, .int (nI (pF (clm t sy wd B vs) (i + 1))), .int (nI (vF (clm t sy wd B vs) i))]) rfl rfl rfl (Nat.le_of_ble_eq_true rfl) (P_h_row.2.rcv (by omega)) ?_
  refine w_addW (by omega) P_h_row hRN (by omega) (by omega) (fun h28 fr28 P_h28_row => ?_)
  have F_h28_c : h28 c = .inr (1, [.ref (aBig + j), .ref (aBig + k), .int (nI G), .ref (c + 1), .ref (c + 2), .ref (c + 5), .int (nI vs.length), .int (nI (colF sy wd vs).2.1), .int (nI (colF sy wd vs).2.2), .ref (c + 6), .ref (c + 13), .ref (c + 20), .ref (CHO c md), .ref (c + 3), .int (nI md), .int bi, .int ob, .int (nI (pF (clm t sy wd B vs) (i + 1)))]) := (fr28 _ (by omega)).trans F_h_c
  have F_h28__c_1_ : h28 (c + 1) = .inl (1, 2667, .inl sA) := (fr28 _ (by omega)).trans F_h__c_1_
  have F_h28__c_2_ : h28 (c + 2) = .inl (1, 2667, .inl vA) := (fr28 _ (by omega)).trans F_h__c_2_
  have F_h28__c_5_ : h28 (c + 5) = .inl (1, (l + 1), .inl cA) := (fr28 _ (by omega)).trans F_h__c_5_
  have F_h28__aBig_j_ : h28 (aBig + j) = .inl (1, NB, .inl bA) := (fr28 _ (by omega)).trans F_h__aBig_j_
  have F_h28__aBig_k_ : h28 (aBig + k) = .inl (1, NW, .inl wA) := (fr28 _ (by omega)).trans F_h__aBig_k_
  have P_h28_sh : ShT h28 (CHO c md) l M t.1 t.2 := P_h_sh.zfr fr28 (fun j h1 h2 => by omega)
  have FR_h28 : Fr h h28 (fun j => j = c ∨ j = r ∨ j = r + 1) := FR_h.zsub fr28 (fun j hj => by first | exact hj | exact Or.inl hj | exact Or.inr hj | omega)
  show WX _ _ _ 31 [(0, .ref c), (1, .ref r), (2, .int (nI i)), (3, .int (nI (sy (vs.getD i 0)))), (4, .int (nI (vF (clm t sy wd B vs) i)))] [] (n, s, h28)
  refine WX.s1 rfl rfl ?_
  refine WX.s1 rfl rfl ?_
  refine WX.get1 (fs := [.ref (aBig + j), .ref (aBig + k), .int (nI G), .ref (c + 1), .ref (c + 2), .ref (c + 5), .int (nI vs.length), .int (nI (colF sy wd vs).2.1), .int (nI (colF sy wd vs).2.2), .ref (c + 6), .ref (c + 13), .ref (c + 20), .ref (CHO c md), .ref (c + 3), .int (nI md), .int bi, .int ob, .int (nI (pF (clm t sy wd B vs) (i + 1)))]) rfl (by omega) (F_h28_c) rfl ?_
  refine WX.s1 rfl rfl ?_
  refine WX.s1 rfl rfl ?_
  refine WX.get1 (fs := [.ref (aBig + j), .ref (aBig + k), .int (nI G), .ref (c + 1), .ref (c + 2), .ref (c + 5), .int (nI vs.length), .int (nI (colF sy wd vs).2.1), .int (nI (colF sy wd vs).2.2), .ref (c + 6), .ref (c + 13), .ref (c + 20), .ref (CHO c md), .ref (c + 3), .int (nI md), .int bi, .int ob, .int (nI (pF (clm t sy wd B vs) (i + 1)))]) rfl (by omega) (F_h28_c) rfl ?_
  refine WX.s1 rfl rfl ?_
  refine WX.callC (vs := [.ref (CHO c md), .int (nI (sy (vs.getD i 0))), .int (nI (pF (clm t sy wd B vs) (i + 1))), .int (nI (vF (clm t sy wd B vs) i))]) rfl rfl rfl (Nat.le_of_ble_eq_true rfl) (((P_h28_sh.toP).toX).rcv (by omega)) ?_
  refine xt_before (by omega) hv hi hsl.2.1 P_h28_sh ?_
  show WX _ _ _ 46 [(0, .ref c), (1, .ref r), (2, .int (nI i)), (3, .int (nI (sy (vs.getD i 0)))), (4, .int (nI (vF (clm t sy wd B vs) i)))] [.int (nI (pF (clm t sy wd B vs) i)), .ref c] (n, s, h28)
  refine WX.put1 (fs := [.ref (aBig + j), .ref (aBig + k), .int (nI G), .ref (c + 1), .ref (c + 2), .ref (c + 5), .int (nI vs.length), .int (nI (colF sy wd vs).2.1), .int (nI (colF sy wd vs).2.2), .ref (c + 6), .ref (c + 13), .ref (c + 20), .ref (CHO c md), .ref (c + 3), .int (nI md), .int bi, .int ob, .int (nI (pF (clm t sy wd B vs) (i + 1)))]) (fs' := [.ref (aBig + j), .ref (aBig + k), .int (nI G), .ref (c + 1), .ref (c + 2), .ref (c + 5), .int (nI vs.length), .int (nI (colF sy wd vs).2.1), .int (nI (colF sy wd vs).2.2), .ref (c + 6), .ref (c + 13), .ref (c + 20), .ref (CHO c md), .ref (c + 3), .int (nI md), .int bi, .int ob, .int (nI (pF (clm t sy wd B vs) i))]) rfl (by omega) (F_h28_c) (Nat.le_of_ble_eq_true rfl) (rfl) rfl (fun h46 e_h46 => ?_)
  have F_h46_c : h46 c = .inr (1, [.ref (aBig + j), .ref (aBig + k), .int (nI G), .ref (c + 1), .ref (c + 2), .ref (c + 5), .int (nI vs.length), .int (nI (colF sy wd vs).2.1), .int (nI (colF sy wd vs).2.2), .ref (c + 6), .ref (c + 13), .ref (c + 20), .ref (CHO c md), .ref (c + 3), .int (nI md), .int bi, .int ob, .int (nI (pF (clm t sy wd B vs) i))]) := by rw [e_h46]; exact va_up_eq
  have F_h46__c_1_ : h46 (c + 1) = .inl (1, 2667, .inl sA) := by rw [e_h46, va_up_neq (nek0 (a := 1) (by decide))]; exact F_h28__c_1_
  have F_h46__c_2_ : h46 (c + 2) = .inl (1, 2667, .inl vA) := by rw [e_h46, va_up_neq (nek0 (a := 2) (by decide))]; exact F_h28__c_2_
  have F_h46__c_5_ : h46 (c + 5) = .inl (1, (l + 1), .inl cA) := by rw [e_h46, va_up_neq (nek0 (a := 5) (by decide))]; exact F_h28__c_5_
  have F_h46__aBig_j_ : h46 (aBig + j) = .inl (1, NB, .inl bA) := by rw [e_h46, va_up_neq (by omega)]; exact F_h28__aBig_j_
  have F_h46__aBig_k_ : h46 (aBig + k) = .inl (1, NW, .inl wA) := by rw [e_h46, va_up_neq (by omega)]; exact F_h28__aBig_k_
  have P_h46_row : RowW h46 r RN bb (stB (clm t sy wd B vs) i (kb, wb)).1 (stB (clm t sy wd B vs) i (kb, wb)).2 := P_h28_row.zfr (Fr.of e_h46) (by omega) (by omega)
  have P_h46_sh : ShT h46 (CHO c md) l M t.1 t.2 := P_h28_sh.zfr (Fr.of e_h46) (fun j h1 h2 => by omega)
  have FR_h46 : Fr h h46 (fun j => j = c ∨ j = r ∨ j = r + 1) := FR_h28.zup e_h46 (by first | exact rfl | exact Or.inl rfl | exact Or.inr rfl | exact ⟨by decide, by decide⟩ | decide | omega)
  clear F_h28_c F_h28__c_1_ F_h28__c_2_ F_h28__c_5_ F_h28__aBig_j_ F_h28__aBig_k_ P_h28_row P_h28_sh FR_h28 e_h46
  exact WX.ret0 rfl (kk h46 FR_h46 ⟨bi, ob, F_h46_c, ⟨sA, vA, cA, F_h46__c_1_, F_h46__c_2_, F_h46__c_5_, hAi, hAc⟩, P_h46_sh, ⟨bA, wA, F_h46__aBig_j_, F_h46__aBig_k_, hB, hW, hsy, hNB, hNW, hl1, hwd, hj, hk⟩⟩ P_h46_row)
set_option maxRecDepth 20000 in
theorem x_putAdd {d n s : Nat} {h : Nat → aE} {c j k G l M NB NW md : Nat} {B sy wd : Nat → Nat} {vs : List Nat} {t : Tb} {N : Nat} {i sta : Nat} {r RN kb wb : Nat} {bb : Option (List Nat)}  (hc : c + 26 < n) (hnb : n < aBig) (hv : CvOk l M B sy wd vs t N) (hr : r + 1 < c) (hRN : RN < 2 ^ 31) (hi : i < N) (hN2 : N ≤ 2667) (hC : ColR h c j k G l M NB NW B sy wd vs t md sta)  (P_h_row : RowW h r RN bb kb wb) {Ψ : Option Value → aH → Prop} (kk : ∀ h', Fr h h' (fun j => j = r ∨ j = r + 1) → RowW h' r RN bb (addB (kb, wb) ((clm t sy wd B vs).2.2.1 i) ((clm t sy wd B vs).2.2.2 i)).1 (addB (kb, wb) ((clm t sy wd B vs).2.2.1 i) ((clm t sy wd B vs).2.2.2 i)).2 → Ψ none (n, s, h')) : WO (mM (d + 2)) 20 [.ref c, .ref r, .int (nI i)] (n, s, h) Ψ := by
  refine WO.of (Nat.le_of_ble_eq_true rfl) ?_
  have FR_h : Fr h h (fun j => j = r ∨ j = r + 1) := Fr.rf
  obtain ⟨bi, ob, F_h_c, ⟨sA, vA, cA, F_h__c_1_, F_h__c_2_, F_h__c_5_, hAi, hAc⟩, P_h_sh, hP⟩ := hC
  have hcho := cho_in c md
  obtain ⟨hv1, hv2, hv3, hv4, hv5, hv6⟩ := id hv
  obtain ⟨bA, wA, F_h__aBig_j_, F_h__aBig_k_, hB, hW, hsy, hNB, hNW, hl1, hwd, hj, hk⟩ := id hP
  have hBg : aBig = 1000000 := rfl
  have hii := hAi i (by omega)
  have hm := (cv_at hv hi).2.1
  have hvm := hv6 _ hm
  have hsl := hsy _ hvm.1
  obtain ⟨hB1, hB2⟩ := hB (sy (vs.getD i 0)) hsl.1.1
  have hW1 := hW (sy (vs.getD i 0)) hsl.2.2
  have hwd1 := hwd (sy (vs.getD i 0))
  show WX (lk tX1_putAdditional) (mM (d + 1)) Ψ 0 [(0, .ref c), (1, .ref r), (2, .int (nI i))] [] (n, s, h)
  refine WX.s1 rfl rfl ?_
  refine WX.get1 (fs := [.ref (aBig + j), .ref (aBig + k), .int (nI G), .ref (c + 1), .ref (c + 2), .ref (c + 5), .int (nI vs.length), .int (nI (colF sy wd vs).2.1), .int (nI (colF sy wd vs).2.2), .ref (c + 6), .ref (c + 13), .ref (c + 20), .ref (CHO c md), .ref (c + 3), .int (nI md), .int bi, .int ob, .int (nI sta)]) rfl (by omega) (F_h_c) rfl ?_
  refine WX.s1 rfl rfl ?_
  refine WX.iald1 rfl (Or.inl (by omega)) (F_h__c_1_) (vp_in_nI (N := 2667) (by omega) (by decide)) ?_
  rw [nI_clamp (by omega), hii.1]
  refine WX.s1 (L' := [(0, .ref c), (1, .ref r), (2, .int (nI i)), (3, .int (nI (sy (vs.getD i 0))))]) rfl rfl ?_
  refine WX.s1 rfl rfl ?_
  refine WX.s1 rfl rfl ?_
  refine WX.get1 (fs := [.ref (aBig + j), .ref (aBig + k), .int (nI G), .ref (c + 1), .ref (c + 2), .ref (c + 5), .int (nI vs.length), .int (nI (colF sy wd vs).2.1), .int (nI (colF sy wd vs).2.2), .ref (c + 6), .ref (c + 13), .ref (c + 20), .ref (CHO c md), .ref (c + 3), .int (nI md), .int bi, .int ob, .int (nI sta)]) rfl (by omega) (F_h_c) rfl ?_
  refine WX.s1 rfl rfl ?_
  refine WX.iald1 rfl (Or.inl (by omega)) (F_h__c_2_) (vp_in_nI (N := 2667) (by omega) (by decide)) ?_
  rw [nI_clamp (by omega), hii.2]
  refine WX.s1 rfl rfl ?_
  refine WX.get1 (fs := [.ref (aBig + j), .ref (aBig + k), .int (nI G), .ref (c + 1), .ref (c + 2), .ref (c + 5), .int (nI vs.length), .int (nI (colF sy wd vs).2.1), .int (nI (colF sy wd vs).2.2), .ref (c + 6), .ref (c + 13), .ref (c + 20), .ref (CHO c md), .ref (c + 3), .int (nI md), .int bi, .int ob, .int (nI sta)]) rfl (by omega) (F_h_c) rfl ?_
  refine WX.s1 rfl rfl ?_
  refine WX.iald1 rfl (Or.inr ⟨Nat.le_add_right _ _, by omega⟩) (F_h__aBig_j_) (vp_in_nI (N := NB) (by have := hsl.1.1; omega) (by omega)) ?_
  rw [nI_clamp (by have := hsl.1.1; omega), hB1]
  refine WX.s1 (S' := [.int ((nI (vs.getD i 0)) - (nI (B (sy (vs.getD i 0))))), .ref r]) rfl rfl ?_
  rw [nI_subN hvm.2]
  refine WX.s1 rfl rfl ?_
  refine WX.get1 (fs := [.ref (aBig + j), .ref (aBig + k), .int (nI G), .ref (c + 1), .ref (c + 2), .ref (c + 5), .int (nI vs.length), .int (nI (colF sy wd vs).2.1), .int (nI (colF sy wd vs).2.2), .ref (c + 6), .ref (c + 13), .ref (c + 20), .ref (CHO c md), .ref (c + 3), .int (nI md), .int bi, .int ob, .int (nI sta)]) rfl (by omega) (F_h_c) rfl ?_
  refine WX.s1 rfl rfl ?_
  refine WX.iald1 rfl (Or.inr ⟨Nat.le_add_right _ _, by omega⟩) (F_h__aBig_k_) (vp_in_nI (N := NW) (by have := hsl.2.2; omega) (by omega)) ?_
  rw [nI_clamp (by have := hsl.2.2; omega), hW1]
  refine WX.callC (vs := [.ref r, .int (nI (vs.getD i 0 - B (sy (vs.getD i 0)))), .int (nI (wd (sy (vs.getD i 0))))]) rfl rfl rfl (Nat.le_of_ble_eq_true rfl) (P_h_row.2.rcv (by omega)) ?_
  refine w_addW (by omega) P_h_row hRN (by have := hvm.1; omega) (by omega) (fun h27 fr27 P_h27_row => ?_)
  have F_h27_c : h27 c = .inr (1, [.ref (aBig + j), .ref (aBig + k), .int (nI G), .ref (c + 1), .ref (c + 2), .ref (c + 5), .int (nI vs.length), .int (nI (colF sy wd vs).2.1), .int (nI (colF sy wd vs).2.2), .ref (c + 6), .ref (c + 13), .ref (c + 20), .ref (CHO c md), .ref (c + 3), .int (nI md), .int bi, .int ob, .int (nI sta)]) := (fr27 _ (by omega)).trans F_h_c
  have F_h27__c_1_ : h27 (c + 1) = .inl (1, 2667, .inl sA) := (fr27 _ (by omega)).trans F_h__c_1_
  have F_h27__c_2_ : h27 (c + 2) = .inl (1, 2667, .inl vA) := (fr27 _ (by omega)).trans F_h__c_2_
  have F_h27__c_5_ : h27 (c + 5) = .inl (1, (l + 1), .inl cA) := (fr27 _ (by omega)).trans F_h__c_5_
  have F_h27__aBig_j_ : h27 (aBig + j) = .inl (1, NB, .inl bA) := (fr27 _ (by omega)).trans F_h__aBig_j_
  have F_h27__aBig_k_ : h27 (aBig + k) = .inl (1, NW, .inl wA) := (fr27 _ (by omega)).trans F_h__aBig_k_
  have P_h27_sh : ShT h27 (CHO c md) l M t.1 t.2 := P_h_sh.zfr fr27 (fun j h1 h2 => by omega)
  have FR_h27 : Fr h h27 (fun j => j = r ∨ j = r + 1) := FR_h.zsub fr27 (fun j hj => by first | exact hj | exact Or.inl hj | exact Or.inr hj | omega)
  show WX _ _ _ 30 [(0, .ref c), (1, .ref r), (2, .int (nI i)), (3, .int (nI (sy (vs.getD i 0))))] [] (n, s, h27)
  exact WX.ret0 rfl (kk h27 FR_h27 P_h27_row)
set_option maxRecDepth 20000 in
theorem x_endStates {d n s : Nat} {h : Nat → aE} {c j k G l M NB NW md : Nat} {B sy wd : Nat → Nat} {vs : List Nat} {t : Tb} {N : Nat} {sta : Nat} {r RN kb wb : Nat} {bb : Option (List Nat)}  (hc : c + 26 < n) (hnb : n < aBig) (hv : CvOk l M B sy wd vs t N) (hr : r + 1 < c) (hRN : RN < 2 ^ 31) (hst : sta < 2 ^ t.1) (hC : ColR h c j k G l M NB NW B sy wd vs t md sta)  (P_h_row : RowW h r RN bb kb wb) {Ψ : Option Value → aH → Prop} (kk : ∀ h', Fr h h' (fun j => j = r ∨ j = r + 1) → RowW h' r RN bb (addB (kb, wb) sta t.1).1 (addB (kb, wb) sta t.1).2 → Ψ none (n, s, h')) : WO (mM (d + 2)) 21 [.ref c, .ref r] (n, s, h) Ψ := by
  refine WO.of (Nat.le_of_ble_eq_true rfl) ?_
  have FR_h : Fr h h (fun j => j = r ∨ j = r + 1) := Fr.rf
  obtain ⟨bi, ob, F_h_c, ⟨sA, vA, cA, F_h__c_1_, F_h__c_2_, F_h__c_5_, hAi, hAc⟩, P_h_sh, hP⟩ := hC
  have hcho := cho_in c md
  obtain ⟨hv1, hv2, hv3, hv4, hv5, hv6⟩ := id hv
  obtain ⟨bA, wA, F_h__aBig_j_, F_h__aBig_k_, hB, hW, hsy, hNB, hNW, hl1, hwd, hj, hk⟩ := id hP
  have hBg : aBig = 1000000 := rfl
  have ht9 : t.1 ≤ 9 := hv3.2.1
  have hp9 : 2 ^ t.1 ≤ 2 ^ 9 := Nat.pow_le_pow_right (by decide) ht9
  obtain ⟨-, F_h__CHO_c_md_, -⟩ := P_h_sh.toS
  show WX (lk tX1_endStates) (mM (d + 1)) Ψ 0 [(0, .ref c), (1, .ref r)] [] (n, s, h)
  refine WX.s1 rfl rfl ?_
  refine WX.s1 rfl rfl ?_
  refine WX.get1 (fs := [.ref (aBig + j), .ref (aBig + k), .int (nI G), .ref (c + 1), .ref (c + 2), .ref (c + 5), .int (nI vs.length), .int (nI (colF sy wd vs).2.1), .int (nI (colF sy wd vs).2.2), .ref (c + 6), .ref (c + 13), .ref (c + 20), .ref (CHO c md), .ref (c + 3), .int (nI md), .int bi, .int ob, .int (nI sta)]) rfl (by omega) (F_h_c) rfl ?_
  refine WX.s1 rfl rfl ?_
  refine WX.get1 (fs := [.ref (aBig + j), .ref (aBig + k), .int (nI G), .ref (c + 1), .ref (c + 2), .ref (c + 5), .int (nI vs.length), .int (nI (colF sy wd vs).2.1), .int (nI (colF sy wd vs).2.2), .ref (c + 6), .ref (c + 13), .ref (c + 20), .ref (CHO c md), .ref (c + 3), .int (nI md), .int bi, .int ob, .int (nI sta)]) rfl (by omega) (F_h_c) rfl ?_
  refine WX.get1 (fs := [.int (nI l), .ref (CHO c md + 1), .ref (CHO c md + 2), .ref (CHO c md + 3), .ref (CHO c md + 4), .ref (CHO c md + 5), .ref (CHO c md + 6), .int (nI t.1), .int 1]) rfl (by omega) (F_h__CHO_c_md_) rfl ?_
  refine WX.callC (vs := [.ref r, .int (nI sta), .int (nI t.1)]) rfl rfl rfl (Nat.le_of_ble_eq_true rfl) (P_h_row.2.rcv (by omega)) ?_
  refine w_addW (by omega) P_h_row hRN (by omega) (by omega) (fun h12 fr12 P_h12_row => ?_)
  have F_h12_c : h12 c = .inr (1, [.ref (aBig + j), .ref (aBig + k), .int (nI G), .ref (c + 1), .ref (c + 2), .ref (c + 5), .int (nI vs.length), .int (nI (colF sy wd vs).2.1), .int (nI (colF sy wd vs).2.2), .ref (c + 6), .ref (c + 13), .ref (c + 20), .ref (CHO c md), .ref (c + 3), .int (nI md), .int bi, .int ob, .int (nI sta)]) := (fr12 _ (by omega)).trans F_h_c
  have F_h12__c_1_ : h12 (c + 1) = .inl (1, 2667, .inl sA) := (fr12 _ (by omega)).trans F_h__c_1_
  have F_h12__c_2_ : h12 (c + 2) = .inl (1, 2667, .inl vA) := (fr12 _ (by omega)).trans F_h__c_2_
  have F_h12__c_5_ : h12 (c + 5) = .inl (1, (l + 1), .inl cA) := (fr12 _ (by omega)).trans F_h__c_5_
  have F_h12__aBig_j_ : h12 (aBig + j) = .inl (1, NB, .inl bA) := (fr12 _ (by omega)).trans F_h__aBig_j_
  have F_h12__aBig_k_ : h12 (aBig + k) = .inl (1, NW, .inl wA) := (fr12 _ (by omega)).trans F_h__aBig_k_
  have F_h12__CHO_c_md_ : h12 (CHO c md) = .inr (8, [.int (nI l), .ref (CHO c md + 1), .ref (CHO c md + 2), .ref (CHO c md + 3), .ref (CHO c md + 4), .ref (CHO c md + 5), .ref (CHO c md + 6), .int (nI t.1), .int 1]) := (fr12 _ (by omega)).trans F_h__CHO_c_md_
  have P_h12_sh : ShT h12 (CHO c md) l M t.1 t.2 := P_h_sh.zfr fr12 (fun j h1 h2 => by omega)
  have FR_h12 : Fr h h12 (fun j => j = r ∨ j = r + 1) := FR_h.zsub fr12 (fun j hj => by first | exact hj | exact Or.inl hj | exact Or.inr hj | omega)
  show WX _ _ _ 15 [(0, .ref c), (1, .ref r)] [] (n, s, h12)
  exact WX.ret0 rfl (kk h12 FR_h12 P_h12_row)
set_option maxRecDepth 20000 in
theorem x_putTable {d n s : Nat} {h : Nat → aE} {c j k G l M NB NW md : Nat} {B sy wd : Nat → Nat} {vs : List Nat} {t : Tb} {N : Nat} {sta : Nat} {r RN : Nat} {bb : Option (List Nat)}  (hc : c + 26 < n) (hnb : n < aBig) (hv : CvOk l M B sy wd vs t N) (hr : r + 1 < c) (hRN : RN < 2 ^ 31) (hN : 1 ≤ N) (hmd : md ≤ 3) (hT : md = 2 → RowIs h (c + 3) 128 (some (tbY (vs.map sy) G 2)) 0 0) (hC : ColR h c j k G l M NB NW B sy wd vs t md sta)  (P_h_row : RowIs h r RN bb 0 0) {Ψ : Option Value → aH → Prop} (kk : ∀ h', Fr h h' (fun j => j = r ∨ j = r + 1) → RowIs h' r RN (bputs RN bb (tbY (vs.map sy) G md)) 0 0 → Ψ none (n, s, h')) : WO (mM (d + 3)) 16 [.ref c, .ref r] (n, s, h) Ψ := by
  refine WO.of (Nat.le_of_ble_eq_true rfl) ?_
  have FR_h : Fr h h (fun j => j = r ∨ j = r + 1) := Fr.rf
  obtain ⟨bi, ob, F_h_c, ⟨sA, vA, cA, F_h__c_1_, F_h__c_2_, F_h__c_5_, hAi, hAc⟩, P_h_sh, hP⟩ := hC
  have hcho := cho_in c md
  obtain ⟨hv1, hv2, hv3, hv4, hv5, hv6⟩ := id hv
  obtain ⟨bA, wA, F_h__aBig_j_, F_h__aBig_k_, hB, hW, hsy, hNB, hNW, hl1, hwd, hj, hk⟩ := id hP
  have hBg : aBig = 1000000 := rfl
  have hii := hAi 0 (by omega)
  show WX (lk tX1_putTable) (mM (d + 2)) Ψ 0 [(0, .ref c), (1, .ref r)] [] (n, s, h)
  refine WX.s1 rfl rfl ?_
  refine WX.get1 (fs := [.ref (aBig + j), .ref (aBig + k), .int (nI G), .ref (c + 1), .ref (c + 2), .ref (c + 5), .int (nI vs.length), .int (nI (colF sy wd vs).2.1), .int (nI (colF sy wd vs).2.2), .ref (c + 6), .ref (c + 13), .ref (c + 20), .ref (CHO c md), .ref (c + 3), .int (nI md), .int bi, .int ob, .int (nI sta)]) rfl (by omega) (F_h_c) rfl ?_
  refine WX.s1 rfl rfl ?_
  refine WX.icmp rfl (fun c_5 => ?_) (fun c_5 => ?_)
  · skip
    have n_5 : ¬ md = 1 := fun zz_ => c_5 ((nI_eq (a := md) (b := 1) (by omega) (by omega)).mpr zz_)
    refine WX.s1 rfl rfl ?_
    refine WX.get1 (fs := [.ref (aBig + j), .ref (aBig + k), .int (nI G), .ref (c + 1), .ref (c + 2), .ref (c + 5), .int (nI vs.length), .int (nI (colF sy wd vs).2.1), .int (nI (colF sy wd vs).2.2), .ref (c + 6), .ref (c + 13), .ref (c + 20), .ref (CHO c md), .ref (c + 3), .int (nI md), .int bi, .int ob, .int (nI sta)]) rfl (by omega) (F_h_c) rfl ?_
    refine WX.s1 rfl rfl ?_
    refine WX.icmp rfl (fun c_26 => ?_) (fun c_26 => ?_)
    · skip
      have n_26 : ¬ md = 2 := fun zz_ => c_26 ((nI_eq (a := md) (b := 2) (by omega) (by omega)).mpr zz_)
      have e9 : tbY (vs.map sy) G md = [] := by
        have q : mdB (vs.map sy) G md = (0, 0) := by unfold mdB; rw [if_neg (by omega), if_neg (by omega)]
        unfold tbY; rw [q]; rfl
      exact WX.ret0 rfl (kk h FR_h (by rw [e9]; exact P_h_row))
    · skip
      have n_26 : md = 2 := (nI_eq (a := md) (b := 2) (by omega) (by omega)).mp (Classical.not_not.mp c_26)
      have hT2 := hT n_26
      obtain ⟨gT, hT3, -⟩ := hT2.at_
      have F_h__c_3_ := hT3.1
      refine WX.s1 rfl rfl ?_
      refine WX.s1 rfl rfl ?_
      refine WX.get1 (fs := [.ref (aBig + j), .ref (aBig + k), .int (nI G), .ref (c + 1), .ref (c + 2), .ref (c + 5), .int (nI vs.length), .int (nI (colF sy wd vs).2.1), .int (nI (colF sy wd vs).2.2), .ref (c + 6), .ref (c + 13), .ref (c + 20), .ref (CHO c md), .ref (c + 3), .int (nI md), .int bi, .int ob, .int (nI sta)]) rfl (by omega) (F_h_c) rfl ?_
      refine WX.s1 rfl rfl ?_
      refine WX.s1 rfl rfl ?_
      refine WX.get1 (fs := [.ref (aBig + j), .ref (aBig + k), .int (nI G), .ref (c + 1), .ref (c + 2), .ref (c + 5), .int (nI vs.length), .int (nI (colF sy wd vs).2.1), .int (nI (colF sy wd vs).2.2), .ref (c + 6), .ref (c + 13), .ref (c + 20), .ref (CHO c md), .ref (c + 3), .int (nI md), .int bi, .int ob, .int (nI sta)]) rfl (by omega) (F_h_c) rfl ?_
      refine WX.get1 (fs := [.ref (c + 4), .int (nI (tbY (vs.map sy) G 2).length), .int 0, .long 0, .int 0]) rfl (by omega) (F_h__c_3_) rfl ?_
      refine WX.callC (vs := [.ref r, .ref (c + 3), .int 0, .int (nI (tbY (vs.map sy) G 2).length)]) rfl rfl rfl (Nat.le_of_ble_eq_true rfl) (P_h_row.rcv (by omega)) ?_
      refine w_putRowL (by omega) P_h_row hRN (by omega) (by omega) (by omega) hT2 (Nat.zero_le _) (Nat.le_refl _) (by decide) (fun h42 fr42 P_h42_row => ?_)
      have F_h42_c : h42 c = .inr (1, [.ref (aBig + j), .ref (aBig + k), .int (nI G), .ref (c + 1), .ref (c + 2), .ref (c + 5), .int (nI vs.length), .int (nI (colF sy wd vs).2.1), .int (nI (colF sy wd vs).2.2), .ref (c + 6), .ref (c + 13), .ref (c + 20), .ref (CHO c md), .ref (c + 3), .int (nI md), .int bi, .int ob, .int (nI sta)]) := (fr42 _ (by omega)).trans F_h_c
      have F_h42__c_1_ : h42 (c + 1) = .inl (1, 2667, .inl sA) := (fr42 _ (by omega)).trans F_h__c_1_
      have F_h42__c_2_ : h42 (c + 2) = .inl (1, 2667, .inl vA) := (fr42 _ (by omega)).trans F_h__c_2_
      have F_h42__c_5_ : h42 (c + 5) = .inl (1, (l + 1), .inl cA) := (fr42 _ (by omega)).trans F_h__c_5_
      have F_h42__aBig_j_ : h42 (aBig + j) = .inl (1, NB, .inl bA) := (fr42 _ (by omega)).trans F_h__aBig_j_
      have F_h42__aBig_k_ : h42 (aBig + k) = .inl (1, NW, .inl wA) := (fr42 _ (by omega)).trans F_h__aBig_k_
      have F_h42__c_3_ : h42 (c + 3) = .inr (7, [.ref (c + 4), .int (nI (tbY (vs.map sy) G 2).length), .int 0, .long 0, .int 0]) := (fr42 _ (by omega)).trans F_h__c_3_
      have P_h42_sh : ShT h42 (CHO c md) l M t.1 t.2 := P_h_sh.zfr fr42 (fun j h1 h2 => by omega)
      have FR_h42 : Fr h h42 (fun j => j = r ∨ j = r + 1) := FR_h.zsub fr42 (fun j hj => by first | exact hj | exact Or.inl hj | exact Or.inr hj | omega)
      show WX _ _ _ 45 [(0, .ref c), (1, .ref r)] [] (n, s, h42)
      exact WX.ret0 rfl (kk h42 FR_h42 (by rw [slice_all] at P_h42_row; rw [show md = 2 from n_26]; exact P_h42_row))
  · skip
    have n_5 : md = 1 := (nI_eq (a := md) (b := 1) (by omega) (by omega)).mp (Classical.not_not.mp c_5)
    refine WX.s1 rfl rfl ?_
    refine WX.s1 rfl rfl ?_
    refine WX.get1 (fs := [.ref (aBig + j), .ref (aBig + k), .int (nI G), .ref (c + 1), .ref (c + 2), .ref (c + 5), .int (nI vs.length), .int (nI (colF sy wd vs).2.1), .int (nI (colF sy wd vs).2.2), .ref (c + 6), .ref (c + 13), .ref (c + 20), .ref (CHO c md), .ref (c + 3), .int (nI md), .int bi, .int ob, .int (nI sta)]) rfl (by omega) (F_h_c) rfl ?_
    refine WX.s1 rfl rfl ?_
    refine WX.iald1 rfl (Or.inl (by omega)) (F_h__c_1_) (by unfold vp_in; decide) ?_
    rw [show Int32.toNatClampNeg 0 = 0 from rfl, hii.1]
    refine WX.callC (vs := [.ref r, .int (nI (sy (vs.getD 0 0)))]) rfl rfl rfl (Nat.le_of_ble_eq_true rfl) (P_h_row.rcv (by omega)) ?_
    refine w_putB (by omega) P_h_row hRN (fun h15 fr15 P_h15_row => ?_)
    have F_h15_c : h15 c = .inr (1, [.ref (aBig + j), .ref (aBig + k), .int (nI G), .ref (c + 1), .ref (c + 2), .ref (c + 5), .int (nI vs.length), .int (nI (colF sy wd vs).2.1), .int (nI (colF sy wd vs).2.2), .ref (c + 6), .ref (c + 13), .ref (c + 20), .ref (CHO c md), .ref (c + 3), .int (nI md), .int bi, .int ob, .int (nI sta)]) := (fr15 _ (by omega)).trans F_h_c
    have F_h15__c_1_ : h15 (c + 1) = .inl (1, 2667, .inl sA) := (fr15 _ (by omega)).trans F_h__c_1_
    have F_h15__c_2_ : h15 (c + 2) = .inl (1, 2667, .inl vA) := (fr15 _ (by omega)).trans F_h__c_2_
    have F_h15__c_5_ : h15 (c + 5) = .inl (1, (l + 1), .inl cA) := (fr15 _ (by omega)).trans F_h__c_5_
    have F_h15__aBig_j_ : h15 (aBig + j) = .inl (1, NB, .inl bA) := (fr15 _ (by omega)).trans F_h__aBig_j_
    have F_h15__aBig_k_ : h15 (aBig + k) = .inl (1, NW, .inl wA) := (fr15 _ (by omega)).trans F_h__aBig_k_
    have P_h15_sh : ShT h15 (CHO c md) l M t.1 t.2 := P_h_sh.zfr fr15 (fun j h1 h2 => by omega)
    have FR_h15 : Fr h h15 (fun j => j = r ∨ j = r + 1) := FR_h.zsub fr15 (fun j hj => by first | exact hj | exact Or.inl hj | exact Or.inr hj | omega)
    show WX _ _ _ 18 [(0, .ref c), (1, .ref r)] [] (n, s, h15)
    refine WX.s1 rfl rfl ?_
    have hd1 : md = 1 := n_5
    have e9 : bputs RN bb (tbY (vs.map sy) G md) = bput RN bb (byt (nI (sy (vs.getD 0 0)))) := by
      rw [hd1, byt_nI]
      rw [tbY_1, map_getD (by omega)]
      show bput RN bb (sy (vs.getD 0 0) / 256 ^ 0 % 256) = _
      rw [Nat.pow_zero, Nat.div_one]
    exact WX.ret0 rfl (kk h15 FR_h15 (by rw [e9]; exact P_h15_row))
