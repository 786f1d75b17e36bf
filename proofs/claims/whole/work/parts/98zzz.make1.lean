/-! make: going over the data; a column's share; the windows -/
theorem mAt_w {D : Nat → Nat} {way least w1 w2 e p : Nat} (h1 : p ≤ w1) (h2 : p ≤ w2) : mAt D way least w1 e p = mAt D way least w2 e p := by
  unfold mAt
  rw [show min p w1 = min p w2 by omega]
theorem goN_w {D : Nat → Nat} {way least w1 w2 e f : Nat} (h1 : e ≤ w1) (h2 : e ≤ w2) : ∀ k, goN D way least w1 e f k = goN D way least w2 e f k := by
  intro k
  induction k with
  | zero => rfl
  | succ k ih =>
    show gStep D way least w1 e (goN D way least w1 e f k) = gStep D way least w2 e (goN D way least w2 e f k)
    rw [ih]
    generalize goN D way least w2 e f k = x
    unfold gStep
    by_cases z : x.1 < e
    · have a := mAt_w (D := D) (way := wy way) (least := least) (e := e) (p := x.1) (w1 := w1) (w2 := w2) (by omega) (by omega)
      have b := mAt_w (D := D) (way := wy way) (least := least) (e := e) (p := x.1 + 1) (w1 := w1) (w2 := w2) (by omega) (by omega)
      have c : tk D way least w1 e x.1 = tk D way least w2 e x.1 := by
        unfold tk
        rw [a, b]
      rw [if_pos z, if_pos z, c, a]
    · rw [if_neg z, if_neg z]
theorem goE_w {D : Nat → Nat} {way least w1 w2 e f : Nat} (h1 : e ≤ w1) (h2 : e ≤ w2) : goE D way least w1 e f = goE D way least w2 e f := goN_w h1 h2 _
def GoX (h : Nat → aE) (D H : Nat → Nat) (U way least win : Nat) (S : PkS) (ls : List Nat) (qs : List Sq) : Prop := PaX h (nI (qs).length) ∧ LatA h 86 S.2.2.2.2.1 ∧ LatA h 87 (numF S.2.2.2.2.1 qs).2 ∧ TlA h S.2.2.2.2.2 ∧ FiX h D H U way least win ∧ (∃ ki by_ sh be : Int32, h 89 = .inr (5, [.ref 90, .ref 91, .int (nI (ls).length), .ref 92, .ref 96, .ref 100, .ref 67, .ref 106, .int ki, .int by_, .int sh, .int be])) ∧ LitA h ls ∧ CoH h 92 S.1 ∧ CoX h 96 ∧ KnX h ∧ RowE h 106 256 ∧ DX h ∧ CG1 h S.2.1 (seqV1 qs) ∧ CG2 h S.2.2.1 (numF S.2.2.2.2.1 qs).1 ∧ CG3 h S.2.2.2.1 (seqV3 qs)
theorem xp_go {d n s : Nat} {h : Nat → aE} {D H : Nat → Nat} {U way least win f e : Nat} {S : PkS} (hn : 190 ≤ n) (hnb : n < aBig) (hOk : PkOk S) (hf : f ≤ e) (he : e ≤ U) (hU : U ≤ 16000) (hfe : e - f ≤ 8000) (hw : way ≤ 3) (hl3 : 3 ≤ least) (hl8 : least ≤ 8) (hwin : win < 2 ^ 30) (hH : HashOk D H) (hX : PkX h D H U way least win S) {Ψ : Option Value → aH → Prop} (kk : ∀ h', Fr h h' (fun j => 81 ≤ j ∧ j ≤ 188) → GoX h' D H U way least win S (goE D way least win e f).2.2.1 (goE D way least win e f).2.2.2 → Ψ none (n, s, h')) : WO (mM (d + 5)) 71 [.ref 81, .int (nI f), .int (nI e)] (n, s, h) Ψ := by
  have hB : aBig = 1000000 := rfl
  obtain ⟨⟨cnt, F_h_81⟩, ⟨a87, F_h_87⟩, L6, ⟨g, F_h_88, hg⟩, ⟨fe, fle, fdi, fap, fal, fad, dA, eA, hA, F_h_82, F_h_83, F_h_84, F_h_85, hD, hCh⟩, ⟨u_, ki, by_, sh, be, a90, a91, F_h_89, F_h_90, F_h_91, he92, hco, hkn, htold⟩, hdx, ⟨cho1, ln1, di1, ad1, mo1, bi1, ob1, sta1, y1, v1, k1, C10, C11, C12, C15, R1, K1, T1, X1, P1⟩, ⟨cho2, ln2, di2, ad2, mo2, bi2, ob2, sta2, y2, v2, k2, C20, C21, C22, C25, R2, K2, T2, X2, P2⟩, ⟨cho3, ln3, di3, ad3, mo3, bi3, ob3, sta3, y3, v3, k3, C30, C31, C32, C35, R3, K3, T3, X3, P3⟩⟩ := hX
  obtain ⟨o1, ⟨o2, o3, o4⟩, o5, o6⟩ := id hOk
  refine x_go hn hnb P1 P2 P3 hD hU hw hl3 hl8 hwin he hCh hH hf hfe o5 F_h_81 F_h_82 F_h_83 F_h_84 F_h_89 F_h_90 F_h_91 F_h_87 C10 C11 C12 C15 C20 C21 C22 C25 C30 C31 C32 C35 L6 (fun h1 k p si ls qs fle2 fdi2 fap2 fal2 fad2 hgo hp fr1 F_h1_81 F_h1_82 F_h1_89 li D10 E1 D20 E2 D30 E3 l7 lok => ?_)
  obtain ⟨eL, eQ⟩ := goE_of hgo hp
  rw [eL, eQ] at kk
  have G1 : CG1 h1 S.2.1 (seqV1 qs) := ⟨⟨_, _, _, _, _, D10⟩, E1, R1.zfr fr1 (by omega) (by omega), K1.zfr fr1 (fun j h1 h2 => by omega), T1.zfr fr1 (fun j h1 h2 => by omega), X1.zfr fr1 (fun j h1 h2 => by omega), P1.zfr fr1 (by omega) (by omega)⟩
  have G2 : CG2 h1 S.2.2.1 (numF S.2.2.2.2.1 qs).1 := ⟨⟨_, _, _, _, _, D20⟩, E2, R2.zfr fr1 (by omega) (by omega), K2.zfr fr1 (fun j h1 h2 => by omega), T2.zfr fr1 (fun j h1 h2 => by omega), X2.zfr fr1 (fun j h1 h2 => by omega), P2.zfr fr1 (by omega) (by omega)⟩
  have G3 : CG3 h1 S.2.2.2.1 (seqV3 qs) := ⟨⟨_, _, _, _, _, D30⟩, E3, R3.zfr fr1 (by omega) (by omega), K3.zfr fr1 (fun j h1 h2 => by omega), T3.zfr fr1 (fun j h1 h2 => by omega), X3.zfr fr1 (fun j h1 h2 => by omega), P3.zfr fr1 (by omega) (by omega)⟩
  exact kk h1 ((fr1).mono (fun j hj => by omega)) ⟨F_h1_81, L6.zfr fr1 (by omega), l7, ⟨g, (fr1 _ (by omega)).trans F_h_88, hg⟩, ⟨_, fle2, fdi2, fap2, fal2, fad2, dA, eA, hA, F_h1_82, (fr1 _ (by omega)).trans F_h_83, (fr1 _ (by omega)).trans F_h_84, (fr1 _ (by omega)).trans F_h_85, hD, hCh⟩, ⟨_, _, _, _, F_h1_89⟩, li, (he92).zfr fr1 (fun j h1 h2 => by omega), (hco).zfr fr1 (fun j h1 h2 => by omega), (hkn).zfr fr1 (fun j h1 h2 => by omega), (htold).zfr fr1 (by omega) (by omega), (hdx).zfr fr1 (fun j h1 h2 => by omega), G1, G2, G3⟩
noncomputable def boO (ss : List Nat) (G : Nat) : Nat := (boF ss (G - 4)).1
noncomputable def boY (ss : List Nat) (G : Nat) : List Nat := leBy (shB (wU (cdF ss).1 (boO ss G) 64) (boO ss G) (0, 0)).2 (((shB (wU (cdF ss).1 (boO ss G) 64) (boO ss G) (0, 0)).1 + 7) / 8)
theorem cl_big {ss : List Nat} {G : Nat} (hok : SyOk ss) (h6 : 6 ≤ G) (h9 : G ≤ 9) : (clF ss 1073741824 (G - 4)).1 = boO ss G := by
  obtain ⟨a, b, c, d, e⟩ := bo_fin hok h6 h9
  unfold clF
  rw [if_pos ⟨by omega, by omega⟩]
  rfl
set_option maxRecDepth 20000 in
theorem x_kSh0 {d n s : Nat} {h : Nat → aE} {c j k G l M r RN cho : Nat} {sy : Nat → Nat} {vs : List Nat} {yA cA : Nat → Int32} {mo bi ob sta ad : Int32} {bb : Option (List Nat)} (hn : 190 ≤ n) (hc : c + 26 < n) (hcr : r + 1 < c) (hrn : r + 1 < n) (hRN : RN < 2 ^ 31) (hl : l < 64) (hG6 : 6 ≤ G) (hG : G ≤ 9) (hM : M = 2 ^ G) (hok : SyOk ((vs).map sy)) (hs : ∀ s, s ∈ ((vs).map sy) → s ≤ l) (hy : ∀ i, i < ((vs).map sy).length → yA i = nI (((vs).map sy).getD i 0)) (hcA : CntIs cA (cdF ((vs).map sy)).1 (l + 1)) (F_h_c : h c = .inr (1, [.ref (aBig + j), .ref (aBig + k), .int (nI G), .ref (c + 1), .ref (c + 2), .ref (c + 5), .int (nI ((vs).map sy).length), .int (nI (cdF ((vs).map sy)).2), .int ad, .ref (c + 6), .ref (c + 13), .ref (c + 20), .ref cho, .ref (c + 3), .int mo, .int bi, .int ob, .int sta])) (F_h__c_1_ : h (c + 1) = .inl (1, 2667, .inl yA)) (F_h__c_5_ : h (c + 5) = .inl (1, (l + 1), .inl cA)) (P_h_fs : ShX h (c + 20) l M) (P_h_to : RowE h (c + 3) 128) (P_h_rw : RowIs h r RN bb 0 0) {Ψ : Option Value → aH → Prop} (kk : ∀ h' ob', Fr h h' (fun x => x = c ∨ x = c + 3 ∨ x = c + 4 ∨ (c + 20 ≤ x ∧ x ≤ c + 26) ∨ x = r ∨ x = r + 1) → h' c = .inr (1, [.ref (aBig + j), .ref (aBig + k), .int (nI G), .ref (c + 1), .ref (c + 2), .ref (c + 5), .int (nI ((vs).map sy).length), .int (nI (cdF ((vs).map sy)).2), .int ad, .ref (c + 6), .ref (c + 13), .ref (c + 20), .ref cho, .ref (c + 3), .int mo, .int bi, .int ob', .int sta]) → ShX h' (c + 20) l M → RowE h' (c + 3) 128 → RowIs h' r RN (bputs RN bb (boY ((vs).map sy) G)) 0 0 → Ψ none (n, s, h')) : WO (mM (d + 6)) 17 [.ref c, .ref r] (n, s, h) Ψ := by
  refine WO.of (Nat.le_of_ble_eq_true rfl) ?_
  have FR_h : Fr h h (fun x => x = c ∨ x = c + 3 ∨ x = c + 4 ∨ (c + 20 ≤ x ∧ x ≤ c + 26) ∨ x = r ∨ x = r + 1) := Fr.rf
  show WX (lk tX1_putShare) (mM (d + 5)) Ψ 0 [(0, .ref c), (1, .ref r)] [] (n, s, h)
  refine WX.s1 rfl rfl ?_
  refine WX.s1 rfl rfl ?_
  refine WX.s1 rfl rfl ?_
  refine WX.callC (vs := [.ref c, .int (nI 1073741824)]) rfl rfl rfl (Nat.le_of_ble_eq_true rfl) (rcv_ok (by omega) F_h_c) ?_
  refine x_orderBelow (d := d) (B := 1073741824) hc hl hG6 hG hM hok hs hy hcA (by decide) F_h_c F_h__c_1_ F_h__c_5_ P_h_fs P_h_to (fun h4 f4 F_h4_c P_h4_fs P_h4_to => ?_)
  rw [cl_big hok hG6 hG]
  have F_h4__c_1_ : h4 (c + 1) = .inl (1, 2667, .inl yA) := (f4 _ (by omega)).trans F_h__c_1_
  have F_h4__c_5_ : h4 (c + 5) = .inl (1, (l + 1), .inl cA) := (f4 _ (by omega)).trans F_h__c_5_
  have P_h4_rw : RowIs h4 r RN bb 0 0 := (P_h_rw).zfr f4 (by omega) (by omega)
  have FR_h4 : Fr h h4 (fun x => x = c ∨ x = c + 3 ∨ x = c + 4 ∨ (c + 20 ≤ x ∧ x ≤ c + 26) ∨ x = r ∨ x = r + 1) := (f4).mono (fun j hj => by omega)
  obtain ⟨b1, b2, b3, -, -⟩ := bo_fin hok hG6 hG
  show WX _ _ _ 7 [(0, .ref c), (1, .ref r)] [.int (nI (boO ((vs).map sy) G)), .ref c] (n, s, h4)
  refine WX.callC (vs := [.ref c, .int (nI (boO ((vs).map sy) G))]) rfl rfl rfl (Nat.le_of_ble_eq_true rfl) (rcv_ok (by omega) F_h4_c) ?_
  refine x_form (d := d) hc hl hG6 hG hM hok hs hy hcA b1 b2 b3 F_h4_c F_h4__c_1_ F_h4__c_5_ P_h4_fs P_h4_to (fun h7 f7 T7 P_h7_to => ?_)
  have F_h7_c := (f7 c (by omega)).trans F_h4_c
  have P_h7_rw : RowIs h7 r RN bb 0 0 := (P_h4_rw).zfr f7 (by omega) (by omega)
  have FR_h7 : Fr h h7 (fun x => x = c ∨ x = c + 3 ∨ x = c + 4 ∨ (c + 20 ≤ x ∧ x ≤ c + 26) ∨ x = r ∨ x = r + 1) := (FR_h4).ztr ((f7).mono (fun j hj => by omega))
  have F_h7__c_3_ := row_obj P_h7_to
  have P_h7_to : RowIs h7 (c + 3) 128 (some (boY ((vs).map sy) G)) 0 0 := P_h7_to
  have F_h7__c_3_ : h7 (c + 3) = .inr (7, [.ref (c + 3 + 1), .int (nI (boY ((vs).map sy) G).length), .int 0, .long 0, .int 0]) := F_h7__c_3_
  show WX _ _ _ 10 [(0, .ref c), (1, .ref r)] [] (n, s, h7)
  refine WX.s1 rfl rfl ?_
  refine WX.s1 rfl rfl ?_
  refine WX.get1 (fs := [.ref (aBig + j), .ref (aBig + k), .int (nI G), .ref (c + 1), .ref (c + 2), .ref (c + 5), .int (nI ((vs).map sy).length), .int (nI (cdF ((vs).map sy)).2), .int ad, .ref (c + 6), .ref (c + 13), .ref (c + 20), .ref cho, .ref (c + 3), .int mo, .int bi, .int (nI (clF ((vs).map sy) 1073741824 (G - 4)).2), .int sta]) rfl (by omega) (F_h7_c) rfl ?_
  refine WX.s1 rfl rfl ?_
  refine WX.s1 rfl rfl ?_
  refine WX.get1 (fs := [.ref (aBig + j), .ref (aBig + k), .int (nI G), .ref (c + 1), .ref (c + 2), .ref (c + 5), .int (nI ((vs).map sy).length), .int (nI (cdF ((vs).map sy)).2), .int ad, .ref (c + 6), .ref (c + 13), .ref (c + 20), .ref cho, .ref (c + 3), .int mo, .int bi, .int (nI (clF ((vs).map sy) 1073741824 (G - 4)).2), .int sta]) rfl (by omega) (F_h7_c) rfl ?_
  refine WX.get1 (fs := [.ref (c + 3 + 1), .int (nI (boY ((vs).map sy) G).length), .int 0, .long 0, .int 0]) rfl (by omega) (F_h7__c_3_) rfl ?_
  refine WX.callC (vs := [.ref r, .ref (c + 3), .int 0, .int (nI (boY ((vs).map sy) G).length)]) rfl rfl rfl (Nat.le_of_ble_eq_true rfl) ((P_h7_rw).rcv (by omega)) ?_
  refine w_putRowL (d := d + 3) (k := r) (q := c + 3) (x := 0) (y := (boY ((vs).map sy) G).length) hrn P_h7_rw hRN (by omega) (by omega) (by omega) P_h7_to (Nat.zero_le _) (Nat.le_refl _) (by decide) (fun h23 fr23 P_h23_rw0 => ?_)
  have F_h23_c : h23 c = .inr (1, [.ref (aBig + j), .ref (aBig + k), .int (nI G), .ref (c + 1), .ref (c + 2), .ref (c + 5), .int (nI ((vs).map sy).length), .int (nI (cdF ((vs).map sy)).2), .int ad, .ref (c + 6), .ref (c + 13), .ref (c + 20), .ref cho, .ref (c + 3), .int mo, .int bi, .int (nI (clF ((vs).map sy) 1073741824 (G - 4)).2), .int sta]) := (fr23 _ (by omega)).trans F_h7_c
  have F_h23__c_3_ : h23 (c + 3) = .inr (7, [.ref (c + 3 + 1), .int (nI (boY ((vs).map sy) G).length), .int 0, .long 0, .int 0]) := (fr23 _ (by omega)).trans F_h7__c_3_
  have P_h23_to : RowIs h23 (c + 3) 128 (some (boY ((vs).map sy) G)) 0 0 := (P_h7_to).zfr fr23 (by omega) (by omega)
  have FR_h23 : Fr h h23 (fun x => x = c ∨ x = c + 3 ∨ x = c + 4 ∨ (c + 20 ≤ x ∧ x ≤ c + 26) ∨ x = r ∨ x = r + 1) := (FR_h7).zsub fr23 (fun j hj => by omega)
  show WX _ _ _ 26 [(0, .ref c), (1, .ref r)] [] (n, s, h23)
  rw [sliceL_all] at P_h23_rw0
  exact WX.ret0 rfl (kk h23 _ FR_h23 F_h23_c (ShT.toX2 (T7.zfr fr23 (fun j h1 h2 => by omega))) ⟨_, _, _, P_h23_to⟩ P_h23_rw0)
theorem x_kSh {d n s : Nat} {h : Nat → aE} {c j k G l M NB NW r RN : Nat} {B sy wd : Nat → Nat} {tK : Tb} {tH : Option Tb} {vs : List Nat} {bb : Option (List Nat)} (hn : 190 ≤ n) (hnb : n < aBig) (hc : c + 26 < n) (hcr : r + 1 < c) (hRN : RN < 2 ^ 31) (hl : l < 64) (hG6 : 6 ≤ G) (hG : G ≤ 9) (hM : M = 2 ^ G) (hsy : ∀ v, sy v ≤ l) (hv1 : 1 ≤ (vs).length) (hv : (vs).length ≤ 2667) (g : ColG h c j k G l M NB NW B sy wd tK tH vs) (P : RowIs h r RN bb 0 0) {Ψ : Option Value → aH → Prop} (kk : ∀ h', Fr h h' (fun x => x = c ∨ x = c + 3 ∨ x = c + 4 ∨ (c + 20 ≤ x ∧ x ≤ c + 26) ∨ x = r ∨ x = r + 1) → RowIs h' r RN (bputs RN bb (boY ((vs).map sy) G)) 0 0 → ColG h' c j k G l M NB NW B sy wd tK tH vs → Ψ none (n, s, h')) : WO (mM (d + 6)) 17 [.ref c, .ref r] (n, s, h) Ψ := by
  have hB : aBig = 1000000 := rfl
  obtain ⟨⟨cho, mo, bi, ob, sta, F⟩, ⟨sA, vA, cA, a1, a2, a3, a4, a5⟩, ro, sK, sH, sX, cP⟩ := g
  obtain ⟨hok, hs⟩ := syv_ok (vs := vs) hsy hl hv1 hv
  obtain ⟨ec, ed⟩ := colF_cd sy wd vs
  have hlen : ((vs).map sy).length = (vs).length := List.length_map ..
  have F2 := F
  rw [ed, ← hlen] at F2
  refine x_kSh0 hn hc hcr (by omega) hRN hl hG6 hG hM hok hs (fun i hi => ?_) (fun s hs2 => ?_) F2 a1 a3 sX ro P (fun h' ob' f z1 z2 z3 z4 => ?_)
  · rw [map_getD (by rw [← hlen]; exact hi)]
    exact (a4 i (by rw [← hlen]; exact hi)).1
  · rw [← ec]
    exact a5 s (by omega)
  · rw [hlen, ← ed] at z1
    exact kk h' f z4 ⟨⟨cho, mo, bi, ob', sta, z1⟩, ⟨sA, vA, cA, (f _ (by omega)).trans a1, (f _ (by omega)).trans a2, (f _ (by omega)).trans a3, a4, a5⟩, z3, (sK).zfr f (fun x h1 h2 => by omega), (sH).zfr f (fun x h1 h2 => by omega), z2, (cP).zfr f (by omega) (by omega)⟩
