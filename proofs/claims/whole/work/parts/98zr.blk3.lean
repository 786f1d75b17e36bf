/-! a block of one byte, a block as it is; what a block leaves -/
theorem tl_up {g g2 : Nat → Int32} {nt : Nat → Nat} {i d : Nat} {v : Int32} (hg : ∀ q, q < 12 → g q = nI (nt q)) (e : g2 = upd g i v) (hv : v = nI (nt i + d)) : ∀ q, q < 12 → g2 q = nI (ntAt nt i d q) := by
  intro q hq
  rw [e]
  unfold ntAt
  by_cases z : q = i
  · rw [if_pos z, z, pk_us, hv]
  · rw [if_neg z, pk_un z, hg q hq, Nat.add_zero]
theorem rng_get {D : Nat → Nat} {U i : Nat} (h : i < U) : ((List.range U).map D).getD i 0 = D i := by
  rw [List.getD_eq_getElem?_getD, List.getElem?_map, List.getElem?_range h]
  rfl
theorem rng_slice {D : Nat → Nat} {U f e : Nat} (hf : f ≤ e) (he : e ≤ U) : sliceL ((List.range U).map D) f e = (List.range (e - f)).map (fun i => D (f + i)) := by
  unfold sliceL
  refine List.map_congr_left (fun i hi => ?_)
  have := List.mem_range.mp hi
  exact rng_get (by omega)
set_option maxRecDepth 20000 in
theorem x_same {d n s : Nat} {h : Nat → aE} {fw fl fwi fe fle fdi fap fal fad : Int32} {D : Nat → Nat} {dA : Nat → Int32} {U f e : Nat} (hn : 190 ≤ n) (hD : ∀ i, i < U → D i < 256 ∧ dA i = sb_b (D i)) (hU : U ≤ 16000) (hf : f ≤ e) (he : e ≤ U) (F_h_82 : h 82 = .inr (3, [.ref 83, .int (nI U), .ref 84, .ref 85, .int fw, .int fl, .int fwi, .int fe, .int fle, .int fdi, .int fap, .int fal, .int fad])) (F_h_83 : h 83 = .inl (0, 16000, .inl dA))  {Ψ : Option Value → aH → Prop} (kk1 : sameB D f e = true → Ψ (some (.int 1)) (n, s, h)) (kk0 : ¬ sameB D f e = true → Ψ (some (.int 0)) (n, s, h)) : WO (mM (d + 2)) 37 [.ref 82, .int (nI f), .int (nI e)] (n, s, h) Ψ := by
  refine WO.of (Nat.le_of_ble_eq_true rfl) ?_
  have FR_h : Fr h h (fun j => False) := Fr.rf
  show WX (lk tX3_same) (mM (d + 1)) Ψ 0 [(0, .ref 82), (1, .int (nI f)), (2, .int (nI e))] [] (n, s, h)
  refine WX.s1 rfl rfl ?_
  refine WX.s1 rfl rfl ?_
  refine WX.s1 (S' := [.int ((nI f) + 1)]) rfl rfl ?_
  rw [show ((nI f) + 1) = nI (f + 1) from nI_add f 1]
  refine WX.s1 (L' := [(0, .ref 82), (1, .int (nI f)), (2, .int (nI e)), (3, .int (nI (f + 1)))]) rfl rfl ?_
  by_cases hfe : f < e
  · have lp : ∀ (t p : Nat), p + t = e → f < p → (∀ k, f ≤ k → k < p → D k = D f) → WX (lk tX3_same) (mM (d + 1)) Ψ 4 [(0, .ref 82), (1, .int (nI f)), (2, .int (nI e)), (3, .int (nI p))] [] (n, s, h) := by
      intro t
      induction t with
      | zero =>
        intro p hp hfp ha
        refine WX.s1 rfl rfl ?_
        refine WX.s1 rfl rfl ?_
        refine WX.icmp rfl (fun c_6 => ?_) (fun c_6 => absurd ((nI_leI (a := e) (b := p) (by omega) (by omega)).mpr (by omega)) c_6)
        clear c_6
        refine WX.s1 rfl rfl ?_
        refine WX.s1 rfl rfl ?_
        refine WX.icmp rfl (fun c_32 => absurd c_32 (fun zz_ => absurd ((nI_leI (a := e) (b := f) (by omega) (by omega)).mp zz_) (Nat.not_le.mpr (by omega)))) (fun c_32 => ?_)
        clear c_32
        refine WX.s1 rfl rfl ?_
        refine WX.s1 rfl rfl ?_
        exact WX.ret3 rfl (by decide) (kk1 (sameB_iff.mpr ⟨hfe, fun k h1 h2 => ha k h1 (by omega)⟩))
      | succ t ih =>
        intro p hp hfp ha
        have hd1 := (hD p (by omega)).1
        have hd2 := (hD f (by omega)).1
        refine WX.s1 rfl rfl ?_
        refine WX.s1 rfl rfl ?_
        refine WX.icmp rfl (fun c_6 => absurd c_6 (fun zz_ => absurd ((nI_leI (a := e) (b := p) (by omega) (by omega)).mp zz_) (Nat.not_le.mpr (by omega)))) (fun c_6 => ?_)
        clear c_6
        refine WX.s1 rfl rfl ?_
        refine WX.s1 rfl rfl ?_
        refine WX.callC (vs := [.ref 82, .int (nI p)]) rfl rfl rfl (Nat.le_of_ble_eq_true rfl) (rcv_ok (ltN hn (by decide)) F_h_82) ?_
        refine x_fat hn hD hU (by omega) F_h_82 F_h_83 ?_
        show WX _ _ _ 14 [(0, .ref 82), (1, .int (nI f)), (2, .int (nI e)), (3, .int (nI p))] [.int (nI (D p))] (n, s, h)
        refine WX.s1 rfl rfl ?_
        refine WX.s1 rfl rfl ?_
        refine WX.callC (vs := [.ref 82, .int (nI f)]) rfl rfl rfl (Nat.le_of_ble_eq_true rfl) (rcv_ok (ltN hn (by decide)) F_h_82) ?_
        refine x_fat hn hD hU (by omega) F_h_82 F_h_83 ?_
        show WX _ _ _ 19 [(0, .ref 82), (1, .int (nI f)), (2, .int (nI e)), (3, .int (nI p))] [.int (nI (D f)), .int (nI (D p))] (n, s, h)
        refine WX.icmp rfl (fun c_19 => ?_) (fun c_19 => ?_)
        · skip
          have n_19 : (D p) = (D f) := (nI_eq (a := D p) (b := D f) (by omega) (by omega)).mp c_19
          refine WX.s1 (L' := [(0, .ref 82), (1, .int (nI f)), (2, .int (nI e)), (3, .int ((nI p) + 1))]) rfl rfl ?_
          rw [show ((nI p) + 1) = nI (p + 1) from nI_add p 1]
          refine WX.s1 rfl rfl ?_
          refine ih (p + 1) (by omega) (by omega) (fun k h1 h2 => ?_)
          by_cases z : k = p
          · rw [z]; exact n_19
          · exact ha k h1 (by omega)
        · skip
          have n_19 : ¬ (D p) = (D f) := fun zz_ => c_19 ((nI_eq (a := D p) (b := D f) (by omega) (by omega)).mpr zz_)
          refine WX.s1 rfl rfl ?_
          exact WX.ret3 rfl (by decide) (kk0 (fun z => n_19 ((sameB_iff.mp z).2 p (by omega) (by omega))))
    exact lp (e - (f + 1)) (f + 1) (by omega) (by omega) (fun k h1 h2 => by rw [show k = f by omega])
  · skip
    refine WX.s1 rfl rfl ?_
    refine WX.s1 rfl rfl ?_
    refine WX.icmp rfl (fun c_6 => ?_) (fun c_6 => absurd ((nI_leI (a := e) (b := f + 1) (by omega) (by omega)).mpr (by omega)) c_6)
    clear c_6
    refine WX.s1 rfl rfl ?_
    refine WX.s1 rfl rfl ?_
    refine WX.icmp rfl (fun c_32 => ?_) (fun c_32 => absurd ((nI_leI (a := e) (b := f) (by omega) (by omega)).mpr (by omega)) c_32)
    clear c_32
    refine WX.s1 rfl rfl ?_
    exact WX.ret3 rfl (by decide) (kk0 (fun z => hfe (sameB_iff.mp z).1))
set_option maxRecDepth 20000 in
theorem x_putTo {d n s : Nat} {h : Nat → aE} {fw fl fwi fe fle fdi fap fal fad : Int32} {D : Nat → Nat} {dA : Nat → Int32} {U f e : Nat} {r RN : Nat} {bb : Option (List Nat)} (hn : 190 ≤ n) (hD : ∀ i, i < U → D i < 256 ∧ dA i = sb_b (D i)) (hU : U ≤ 16000) (hf : f ≤ e) (he : e ≤ U) (hr : r + 1 < 67) (hRN : RN < 2 ^ 31) (F_h_82 : h 82 = .inr (3, [.ref 83, .int (nI U), .ref 84, .ref 85, .int fw, .int fl, .int fwi, .int fe, .int fle, .int fdi, .int fap, .int fal, .int fad])) (F_h_83 : h 83 = .inl (0, 16000, .inl dA)) (P_h_row : RowIs h r RN bb 0 0) {Ψ : Option Value → aH → Prop} (kk : ∀ h', Fr h h' (fun j => j = r ∨ j = r + 1) → RowIs h' r RN (bputs RN bb ((List.range (e - f)).map (fun i => D (f + i)))) 0 0 → Ψ none (n, s, h')) : WO (mM (d + 2)) 38 [.ref 82, .ref r, .int (nI f), .int (nI e)] (n, s, h) Ψ := by
  refine WO.of (Nat.le_of_ble_eq_true rfl) ?_
  have FR_h : Fr h h (fun j => j = r ∨ j = r + 1) := Fr.rf
  show WX (lk tX3_putTo) (mM (d + 1)) Ψ 0 [(0, .ref 82), (1, .ref r), (2, .int (nI f)), (3, .int (nI e))] [] (n, s, h)
  refine WX.s1 rfl rfl ?_
  refine WX.s1 rfl rfl ?_
  refine WX.get1 (fs := [.ref 83, .int (nI U), .ref 84, .ref 85, .int fw, .int fl, .int fwi, .int fe, .int fle, .int fdi, .int fap, .int fal, .int fad]) rfl (ltN hn (by decide)) (F_h_82) rfl ?_
  refine WX.s1 rfl rfl ?_
  refine WX.s1 rfl rfl ?_
  refine WX.s1 rfl rfl ?_
  refine WX.get1 (fs := [.ref 83, .int (nI U), .ref 84, .ref 85, .int fw, .int fl, .int fwi, .int fe, .int fle, .int fdi, .int fap, .int fal, .int fad]) rfl (ltN hn (by decide)) (F_h_82) rfl ?_
  refine WX.s1 (S' := [.int (if (nI U) < (nI e) then (nI U) else (nI e)), .int (nI f), .ref 83, .ref r]) rfl rfl ?_
  rw [show (if nI U < nI e then nI U else nI e) = nI e from nI_min2 (by omega) (by omega) he]
  refine WX.callC (vs := [.ref r, .ref 83, .int (nI f), .int (nI e)]) rfl rfl rfl (Nat.le_of_ble_eq_true rfl) (P_h_row.rcv (by omega)) ?_
  refine w_putCellsL (lq := (List.range U).map D) (by omega) P_h_row hRN (by omega) (by omega) (by omega) F_h_83 hf (by omega) (by decide) (fun i _ hi => by rw [rng_get (by omega)]; exact hD i (by omega)) (fun h14 fr14 P_h14_row => ?_)
  have F_h14_82 : h14 82 = .inr (3, [.ref 83, .int (nI U), .ref 84, .ref 85, .int fw, .int fl, .int fwi, .int fe, .int fle, .int fdi, .int fap, .int fal, .int fad]) := (fr14 _ (by first | decide | omega)).trans F_h_82
  have F_h14_83 : h14 83 = .inl (0, 16000, .inl dA) := (fr14 _ (by first | decide | omega)).trans F_h_83
  have FR_h14 : Fr h h14 (fun j => j = r ∨ j = r + 1) := FR_h.zsub fr14 (fun j hj => hj)
  show WX _ _ _ 17 [(0, .ref 82), (1, .ref r), (2, .int (nI f)), (3, .int (nI e))] [] (n, s, h14)
  rw [rng_slice hf he] at P_h14_row
  exact WX.ret0 rfl (kk h14 FR_h14 P_h14_row)
set_option maxRecDepth 20000 in
theorem x_keepTab {d n s : Nat} {h : Nat → aE} {c j k G l M NB NW md sta : Nat} {B sy wd : Nat → Nat} {vs : List Nat} {t : Tb} {nt : Nat → Nat} {cnt : Int32} {g : Nat → Int32} (hn : 190 ≤ n) (hc : c + 26 < n) (hc8 : 88 < c) (hl : l < 64) (hMb : M < 2 ^ 20) (hmd : md ≤ 3) (hT : TbOk l M t) (hC : ColR h c j k G l M NB NW B sy wd vs t md sta) (X : ShX h (c + 13) l M) (hg : ∀ q, q < 12 → g q = nI (nt q)) (F_h_81 : h 81 = .inr (6, [.ref 82, .ref 89, .ref 108, .ref 135, .ref 162, .ref 86, .ref 87, .int cnt, .ref 88])) (F_h_88 : h 88 = .inl (1, 12, .inl g))  {Ψ : Option Value → aH → Prop} (kk : ∀ h', Fr h h' (fun x => x = 88 ∨ (c + 13 ≤ x ∧ x ≤ c + 19)) → HeldT h' (c + 13) l M (some t) → TlA h' (ntAt nt (8 + md) 1) → Ψ none (n, s, h')) : WO (mM (d + 3)) 82 [.ref 81, .ref c] (n, s, h) Ψ := by
  refine WO.of (Nat.le_of_ble_eq_true rfl) ?_
  have FR_h : Fr h h (fun x => x = 88 ∨ (c + 13 ≤ x ∧ x ≤ c + 19)) := Fr.rf
  obtain ⟨bi, ob, F_h_c, -⟩ := id hC
  show WX (lk tX6_keepTable) (mM (d + 2)) Ψ 0 [(0, .ref 81), (1, .ref c)] [] (n, s, h)
  refine WX.s1 rfl rfl ?_
  refine WX.callC (vs := [.ref c]) rfl rfl rfl (Nat.le_of_ble_eq_true rfl) (hC.rcv (by omega)) ?_
  refine x_kKeep hc hl hMb hmd hT hC X (fun h1 fr1 P_h1_held => ?_)
  have F_h1_81 : h1 81 = .inr (6, [.ref 82, .ref 89, .ref 108, .ref 135, .ref 162, .ref 86, .ref 87, .int cnt, .ref 88]) := (fr1 _ (by first | decide | omega)).trans F_h_81
  have F_h1_88 : h1 88 = .inl (1, 12, .inl g) := (fr1 _ (by first | decide | omega)).trans F_h_88
  have F_h1_c : h1 c = .inr (1, [.ref (aBig + j), .ref (aBig + k), .int (nI G), .ref (c + 1), .ref (c + 2), .ref (c + 5), .int (nI vs.length), .int (nI (colF sy wd vs).2.1), .int (nI (colF sy wd vs).2.2), .ref (c + 6), .ref (c + 13), .ref (c + 20), .ref (CHO c md), .ref (c + 3), .int (nI md), .int bi, .int ob, .int (nI sta)]) := (fr1 _ (by omega)).trans F_h_c
  have FR_h1 : Fr h h1 (fun x => x = 88 ∨ (c + 13 ≤ x ∧ x ≤ c + 19)) := FR_h.zsub fr1 (fun j hj => by first | exact hj | exact Or.inl hj | exact Or.inr hj | omega)
  show WX _ _ _ 4 [(0, .ref 81), (1, .ref c)] [] (n, s, h1)
  refine WX.s1 rfl rfl ?_
  refine WX.get1 (fs := [.ref 82, .ref 89, .ref 108, .ref 135, .ref 162, .ref 86, .ref 87, .int cnt, .ref 88]) rfl (by omega) (F_h1_81) rfl ?_
  refine WX.s1 rfl rfl ?_
  refine WX.s1 rfl rfl ?_
  refine WX.get1 (fs := [.ref (aBig + j), .ref (aBig + k), .int (nI G), .ref (c + 1), .ref (c + 2), .ref (c + 5), .int (nI vs.length), .int (nI (colF sy wd vs).2.1), .int (nI (colF sy wd vs).2.2), .ref (c + 6), .ref (c + 13), .ref (c + 20), .ref (CHO c md), .ref (c + 3), .int (nI md), .int bi, .int ob, .int (nI sta)]) rfl (by omega) (F_h1_c) rfl ?_
  refine WX.s1 (S' := [.int (8 + (nI md)), .ref 88]) rfl rfl ?_
  rw [show (8 + (nI md)) = nI (8 + md) from nI_add 8 md]
  refine WX.s1 rfl rfl ?_
  refine WX.iald1 rfl (Or.inl (by omega)) (F_h1_88) (vp_in_nI (N := 12) (by omega) (by decide)) ?_
  rw [nI_clamp (by omega), hg (8 + md) (by omega)]
  refine WX.s1 rfl rfl ?_
  refine WX.s1 (S' := [.int ((nI (nt (8 + md))) + 1), .int (nI (8 + md)), .ref 88]) rfl rfl ?_
  rw [show ((nI (nt (8 + md))) + 1) = nI (nt (8 + md) + 1) from nI_add (nt (8 + md)) 1]
  refine WX.iastN rfl (by omega) (F_h1_88) (vp_in_nI (N := 12) (by omega) (by decide)) (fun g19 h19 e_g19 e_h19 => ?_)
  try dsimp only at e_g19
  have F_h19_81 : h19 81 = .inr (6, [.ref 82, .ref 89, .ref 108, .ref 135, .ref 162, .ref 86, .ref 87, .int cnt, .ref 88]) := by rw [e_h19, va_up_neq (by decide)]; exact F_h1_81
  have F_h19_88 : h19 88 = .inl (1, 12, .inl g19) := by rw [e_h19]; exact va_up_eq
  have F_h19_c : h19 c = .inr (1, [.ref (aBig + j), .ref (aBig + k), .int (nI G), .ref (c + 1), .ref (c + 2), .ref (c + 5), .int (nI vs.length), .int (nI (colF sy wd vs).2.1), .int (nI (colF sy wd vs).2.2), .ref (c + 6), .ref (c + 13), .ref (c + 20), .ref (CHO c md), .ref (c + 3), .int (nI md), .int bi, .int ob, .int (nI sta)]) := by rw [e_h19, va_up_neq (by omega)]; exact F_h1_c
  have P_h19_held : HeldT h19 (c + 13) l M (some t) := P_h1_held.zfr (Fr.of e_h19) (fun j h1 h2 => by omega)
  have FR_h19 : Fr h h19 (fun x => x = 88 ∨ (c + 13 ≤ x ∧ x ≤ c + 19)) := FR_h1.zup e_h19 (by first | exact rfl | exact Or.inl rfl | exact Or.inr rfl | exact ⟨by decide, by decide⟩ | decide | omega)
  clear F_h1_81 F_h1_88 F_h1_c P_h1_held FR_h1 e_h19
  rw [nI_clamp (by omega)] at e_g19
  exact WX.ret0 rfl (kk h19 FR_h19 P_h19_held ⟨g19, F_h19_88, tl_up hg e_g19 rfl⟩)
theorem nt_pk {nt : Nat → Nat} {N k : Nat} : ntAt (ntAt (ntAt nt 2 1) 3 N) (4 + k) 1 = fun x => nt x + (if x = 2 then 1 else 0) + (if x = 3 then N else 0) + (if x = 4 + k then 1 else 0) := rfl
theorem TlA.cg {h : Nat → aE} {a b : Nat → Nat} (r : TlA h a) (e : ∀ q, a q = b q) : TlA h b := by
  have : a = b := funext e
  rw [← this]; exact r
set_option maxRecDepth 20000 in
theorem x_pkeep0 {d n s : Nat} {h : Nat → aE} {ls : List Nat} {tC : Option Le} {rn : Nat} {nt : Nat → Nat} {g a86 : Nat → Int32} {l1 : Sq} (hn : 190 ≤ n) (hls : LsOk ls) (hS : LiS h ls (litF tC ls)) (he : CoH h 92 tC) (hR : LiR h ls rn) (hg : ∀ q, q < 12 → g q = nI (nt q)) (hL : LatA h 87 l1) (F_h_81 : h 81 = .inr (6, [.ref 82, .ref 89, .ref 108, .ref 135, .ref 162, .ref 86, .ref 87, .int (nI 0), .ref 88])) (F_h_86 : h 86 = .inl (1, 3, .inl a86)) (F_h_88 : h 88 = .inl (1, 12, .inl g))  {Ψ : Option Value → aH → Prop} (kk : ∀ h', Fr h h' (fun x => x = 86 ∨ x = 88 ∨ (92 ≤ x ∧ x ≤ 95)) → LatA h' 86 l1 → CoH h' 92 (litT tC ls) → TlA h' (ntAt (ntAt (ntAt nt 2 1) 3 0) (4 + (litF tC ls).1) 1) → Ψ none (n, s, h')) : WO (mM (d + 4)) 81 [.ref 81] (n, s, h) Ψ := by
  refine WO.of (Nat.le_of_ble_eq_true rfl) ?_
  have FR_h : Fr h h (fun x => x = 86 ∨ x = 88 ∨ (92 ≤ x ∧ x ≤ 95)) := Fr.rf
  obtain ⟨a87, F_h_87, l0, l1_, l2⟩ := id hL
  obtain ⟨sh, be, F_h_89, -⟩ := id hS
  have hk3 := lit_k tC ls
  show WX (lk tX6_keep) (mM (d + 3)) Ψ 0 [(0, .ref 81)] [] (n, s, h)
  have P_h_li := hS
  have P_h_he := he
  have P_h_lr := hR
  refine WX.s1 rfl rfl ?_
  refine WX.get1 (fs := [.ref 82, .ref 89, .ref 108, .ref 135, .ref 162, .ref 86, .ref 87, .int (nI 0), .ref 88]) rfl (by omega) (F_h_81) rfl ?_
  refine WX.s1 rfl rfl ?_
  refine WX.s1 rfl rfl ?_
  refine WX.get1 (fs := [.ref 82, .ref 89, .ref 108, .ref 135, .ref 162, .ref 86, .ref 87, .int (nI 0), .ref 88]) rfl (by omega) (F_h_81) rfl ?_
  refine WX.s1 rfl rfl ?_
  refine WX.s1 rfl rfl ?_
  refine WX.get1 (fs := [.ref 82, .ref 89, .ref 108, .ref 135, .ref 162, .ref 86, .ref 87, .int (nI 0), .ref 88]) rfl (by omega) (F_h_81) rfl ?_
  refine WX.len1 rfl (Or.inl ⟨by omega, by decide⟩) (F_h_86) ?_
  refine WX.copyN rfl (Nat.le_of_ble_eq_true rfl) (Or.inl (by omega)) (F_h_87) (by omega) (F_h_86) (p := 0) (q := 0) (c := 3) rfl rfl rfl (by decide) (by decide) (by decide) (by decide) (fun g15 h15 e_g15 e_h15 => ?_)
  have F_h15_81 : h15 81 = .inr (6, [.ref 82, .ref 89, .ref 108, .ref 135, .ref 162, .ref 86, .ref 87, .int (nI 0), .ref 88]) := by rw [e_h15, va_up_neq (by decide)]; exact F_h_81
  have F_h15_86 : h15 86 = .inl (1, 3, .inl g15) := by rw [e_h15]; exact va_up_eq
  have F_h15_88 : h15 88 = .inl (1, 12, .inl g) := by rw [e_h15, va_up_neq (by decide)]; exact F_h_88
  have F_h15_87 : h15 87 = .inl (1, 3, .inl a87) := by rw [e_h15, va_up_neq (by decide)]; exact F_h_87
  have F_h15_89 : h15 89 = .inr (5, [.ref 90, .ref 91, .int (nI ls.length), .ref 92, .ref 96, .ref 100, .ref 67, .ref 106, .int (nI (litF tC ls).1), .int (nI (litF tC ls).2.1), .int sh, .int be]) := by rw [e_h15, va_up_neq (by decide)]; exact F_h_89
  have P_h15_li : LiS h15 ls (litF tC ls) := P_h_li.zfr (Fr.of e_h15) (by omega)
  have P_h15_he : CoH h15 92 tC := P_h_he.zfr (Fr.of e_h15) (fun j h1 h2 => by omega)
  have P_h15_lr : LiR h15 ls rn := P_h_lr.zfr (Fr.of e_h15) (fun j h1 h2 => by omega)
  have FR_h15 : Fr h h15 (fun x => x = 86 ∨ x = 88 ∨ (92 ≤ x ∧ x ≤ 95)) := FR_h.zup e_h15 (by first | exact rfl | exact Or.inl rfl | exact Or.inr rfl | exact ⟨by decide, by decide⟩ | decide | omega)
  clear F_h_81 F_h_86 F_h_88 F_h_87 F_h_89 P_h_li P_h_he P_h_lr FR_h e_h15
  have hL6 : LatA h15 86 l1 := ⟨g15, F_h15_86, by rw [e_g15, cpy0 (by decide)]; exact l0, by rw [e_g15, cpy0 (by decide)]; exact l1_, by rw [e_g15, cpy0 (by decide)]; exact l2⟩
  clear F_h15_86 F_h15_87 l0 l1_ l2 e_g15
  have P_h15_la := hL6
  refine WX.s1 rfl rfl ?_
  refine WX.get1 (fs := [.ref 82, .ref 89, .ref 108, .ref 135, .ref 162, .ref 86, .ref 87, .int (nI 0), .ref 88]) rfl (by omega) (F_h15_81) rfl ?_
  refine WX.callC (vs := [.ref 89]) rfl rfl rfl (Nat.le_of_ble_eq_true rfl) (rcv_ok (by omega) F_h15_89) ?_
  refine xl_keep hn hls P_h15_li P_h15_he P_h15_lr (fun h22 fr22 P_h22_he => ?_)
  have F_h22_81 : h22 81 = .inr (6, [.ref 82, .ref 89, .ref 108, .ref 135, .ref 162, .ref 86, .ref 87, .int (nI 0), .ref 88]) := (fr22 _ (by first | decide | omega)).trans F_h15_81
  have F_h22_88 : h22 88 = .inl (1, 12, .inl g) := (fr22 _ (by first | decide | omega)).trans F_h15_88
  have F_h22_89 : h22 89 = .inr (5, [.ref 90, .ref 91, .int (nI ls.length), .ref 92, .ref 96, .ref 100, .ref 67, .ref 106, .int (nI (litF tC ls).1), .int (nI (litF tC ls).2.1), .int sh, .int be]) := (fr22 _ (by first | decide | omega)).trans F_h15_89
  have P_h22_li : LiS h22 ls (litF tC ls) := P_h15_li.zfr fr22 (by omega)
  have P_h22_la : LatA h22 86 l1 := P_h15_la.zfr fr22 (by omega)
  have FR_h22 : Fr h h22 (fun x => x = 86 ∨ x = 88 ∨ (92 ≤ x ∧ x ≤ 95)) := FR_h15.zsub fr22 (fun j hj => by first | exact hj | exact Or.inl hj | exact Or.inr hj | omega)
  show WX _ _ _ 25 [(0, .ref 81)] [] (n, s, h22)
  refine WX.s1 rfl rfl ?_
  refine WX.get1 (fs := [.ref 82, .ref 89, .ref 108, .ref 135, .ref 162, .ref 86, .ref 87, .int (nI 0), .ref 88]) rfl (by omega) (F_h22_81) rfl ?_
  refine WX.s1 rfl rfl ?_
  refine WX.s1 rfl rfl ?_
  refine WX.iald1 rfl (Or.inl (by omega)) (F_h22_88) (by unfold vp_in; decide) ?_
  rw [show (2 : Int32).toNatClampNeg = 2 from by decide, hg 2 (by omega)]
  refine WX.s1 rfl rfl ?_
  refine WX.s1 (S' := [.int ((nI (nt 2)) + 1), .int 2, .ref 88]) rfl rfl ?_
  rw [show ((nI (nt 2)) + 1) = nI (nt 2 + 1) from nI_add (nt 2) 1]
  refine WX.iastN rfl (by omega) (F_h22_88) (by unfold vp_in; decide) (fun g34 h34 e_g34 e_h34 => ?_)
  try dsimp only at e_g34
  have F_h34_81 : h34 81 = .inr (6, [.ref 82, .ref 89, .ref 108, .ref 135, .ref 162, .ref 86, .ref 87, .int (nI 0), .ref 88]) := by rw [e_h34, va_up_neq (by decide)]; exact F_h22_81
  have F_h34_88 : h34 88 = .inl (1, 12, .inl g34) := by rw [e_h34]; exact va_up_eq
  have F_h34_89 : h34 89 = .inr (5, [.ref 90, .ref 91, .int (nI ls.length), .ref 92, .ref 96, .ref 100, .ref 67, .ref 106, .int (nI (litF tC ls).1), .int (nI (litF tC ls).2.1), .int sh, .int be]) := by rw [e_h34, va_up_neq (by decide)]; exact F_h22_89
  have P_h34_li : LiS h34 ls (litF tC ls) := P_h22_li.zfr (Fr.of e_h34) (by omega)
  have P_h34_he : CoH h34 92 (litT tC ls) := P_h22_he.zfr (Fr.of e_h34) (fun j h1 h2 => by omega)
  have P_h34_la : LatA h34 86 l1 := P_h22_la.zfr (Fr.of e_h34) (by omega)
  have FR_h34 : Fr h h34 (fun x => x = 86 ∨ x = 88 ∨ (92 ≤ x ∧ x ≤ 95)) := FR_h22.zup e_h34 (by first | exact rfl | exact Or.inl rfl | exact Or.inr rfl | exact ⟨by decide, by decide⟩ | decide | omega)
  clear F_h22_81 F_h22_88 F_h22_89 P_h22_li P_h22_he P_h22_la FR_h22 e_h34
  rw [show (2 : Int32).toNatClampNeg = 2 from by decide] at e_g34
  have hg34 := tl_up hg e_g34 rfl
  clear e_g34
  refine WX.s1 rfl rfl ?_
  refine WX.get1 (fs := [.ref 82, .ref 89, .ref 108, .ref 135, .ref 162, .ref 86, .ref 87, .int (nI 0), .ref 88]) rfl (by omega) (F_h34_81) rfl ?_
  refine WX.s1 rfl rfl ?_
  refine WX.s1 rfl rfl ?_
  refine WX.iald1 rfl (Or.inl (by omega)) (F_h34_88) (by unfold vp_in; decide) ?_
  rw [show (3 : Int32).toNatClampNeg = 3 from by decide, hg34 3 (by omega)]
  refine WX.s1 rfl rfl ?_
  refine WX.get1 (fs := [.ref 82, .ref 89, .ref 108, .ref 135, .ref 162, .ref 86, .ref 87, .int (nI 0), .ref 88]) rfl (by omega) (F_h34_81) rfl ?_
  refine WX.s1 (S' := [.int ((nI ((ntAt nt 2 1) 3)) + (nI 0)), .int 3, .ref 88]) rfl rfl ?_
  rw [show ((nI ((ntAt nt 2 1) 3)) + (nI 0)) = nI ((ntAt nt 2 1) 3 + 0) from nI_add ((ntAt nt 2 1) 3) 0]
  refine WX.iastN rfl (by omega) (F_h34_88) (by unfold vp_in; decide) (fun g47 h47 e_g47 e_h47 => ?_)
  try dsimp only at e_g47
  have F_h47_81 : h47 81 = .inr (6, [.ref 82, .ref 89, .ref 108, .ref 135, .ref 162, .ref 86, .ref 87, .int (nI 0), .ref 88]) := by rw [e_h47, va_up_neq (by decide)]; exact F_h34_81
  have F_h47_88 : h47 88 = .inl (1, 12, .inl g47) := by rw [e_h47]; exact va_up_eq
  have F_h47_89 : h47 89 = .inr (5, [.ref 90, .ref 91, .int (nI ls.length), .ref 92, .ref 96, .ref 100, .ref 67, .ref 106, .int (nI (litF tC ls).1), .int (nI (litF tC ls).2.1), .int sh, .int be]) := by rw [e_h47, va_up_neq (by decide)]; exact F_h34_89
  have P_h47_li : LiS h47 ls (litF tC ls) := P_h34_li.zfr (Fr.of e_h47) (by omega)
  have P_h47_he : CoH h47 92 (litT tC ls) := P_h34_he.zfr (Fr.of e_h47) (fun j h1 h2 => by omega)
  have P_h47_la : LatA h47 86 l1 := P_h34_la.zfr (Fr.of e_h47) (by omega)
  have FR_h47 : Fr h h47 (fun x => x = 86 ∨ x = 88 ∨ (92 ≤ x ∧ x ≤ 95)) := FR_h34.zup e_h47 (by first | exact rfl | exact Or.inl rfl | exact Or.inr rfl | exact ⟨by decide, by decide⟩ | decide | omega)
  clear F_h34_81 F_h34_88 F_h34_89 P_h34_li P_h34_he P_h34_la FR_h34 e_h47
  rw [show (3 : Int32).toNatClampNeg = 3 from by decide] at e_g47
  have hg47 := tl_up hg34 e_g47 rfl
  clear e_g47
  refine WX.s1 rfl rfl ?_
  refine WX.get1 (fs := [.ref 82, .ref 89, .ref 108, .ref 135, .ref 162, .ref 86, .ref 87, .int (nI 0), .ref 88]) rfl (by omega) (F_h47_81) rfl ?_
  refine WX.s1 rfl rfl ?_
  refine WX.s1 rfl rfl ?_
  refine WX.get1 (fs := [.ref 82, .ref 89, .ref 108, .ref 135, .ref 162, .ref 86, .ref 87, .int (nI 0), .ref 88]) rfl (by omega) (F_h47_81) rfl ?_
  refine WX.get1 (fs := [.ref 90, .ref 91, .int (nI ls.length), .ref 92, .ref 96, .ref 100, .ref 67, .ref 106, .int (nI (litF tC ls).1), .int (nI (litF tC ls).2.1), .int sh, .int be]) rfl (by omega) (F_h47_89) rfl ?_
  refine WX.s1 (S' := [.int (4 + (nI (litF tC ls).1)), .ref 88]) rfl rfl ?_
  rw [show (4 + (nI (litF tC ls).1)) = nI (4 + (litF tC ls).1) from nI_add 4 ((litF tC ls).1)]
  refine WX.s1 rfl rfl ?_
  refine WX.iald1 rfl (Or.inl (by omega)) (F_h47_88) (vp_in_nI (N := 12) (by omega) (by decide)) ?_
  rw [nI_clamp (by omega), hg47 (4 + (litF tC ls).1) (by omega)]
  refine WX.s1 rfl rfl ?_
  refine WX.s1 (S' := [.int ((nI ((ntAt (ntAt nt 2 1) 3 0) (4 + (litF tC ls).1))) + 1), .int (nI (4 + (litF tC ls).1)), .ref 88]) rfl rfl ?_
  rw [show ((nI ((ntAt (ntAt nt 2 1) 3 0) (4 + (litF tC ls).1))) + 1) = nI ((ntAt (ntAt nt 2 1) 3 0) (4 + (litF tC ls).1) + 1) from nI_add ((ntAt (ntAt nt 2 1) 3 0) (4 + (litF tC ls).1)) 1]
  refine WX.iastN rfl (by omega) (F_h47_88) (vp_in_nI (N := 12) (by omega) (by decide)) (fun g65 h65 e_g65 e_h65 => ?_)
  try dsimp only at e_g65
  have F_h65_81 : h65 81 = .inr (6, [.ref 82, .ref 89, .ref 108, .ref 135, .ref 162, .ref 86, .ref 87, .int (nI 0), .ref 88]) := by rw [e_h65, va_up_neq (by decide)]; exact F_h47_81
  have F_h65_88 : h65 88 = .inl (1, 12, .inl g65) := by rw [e_h65]; exact va_up_eq
  have F_h65_89 : h65 89 = .inr (5, [.ref 90, .ref 91, .int (nI ls.length), .ref 92, .ref 96, .ref 100, .ref 67, .ref 106, .int (nI (litF tC ls).1), .int (nI (litF tC ls).2.1), .int sh, .int be]) := by rw [e_h65, va_up_neq (by decide)]; exact F_h47_89
  have P_h65_li : LiS h65 ls (litF tC ls) := P_h47_li.zfr (Fr.of e_h65) (by omega)
  have P_h65_he : CoH h65 92 (litT tC ls) := P_h47_he.zfr (Fr.of e_h65) (fun j h1 h2 => by omega)
  have P_h65_la : LatA h65 86 l1 := P_h47_la.zfr (Fr.of e_h65) (by omega)
  have FR_h65 : Fr h h65 (fun x => x = 86 ∨ x = 88 ∨ (92 ≤ x ∧ x ≤ 95)) := FR_h47.zup e_h65 (by first | exact rfl | exact Or.inl rfl | exact Or.inr rfl | exact ⟨by decide, by decide⟩ | decide | omega)
  clear F_h47_81 F_h47_88 F_h47_89 P_h47_li P_h47_he P_h47_la FR_h47 e_h65
  rw [nI_clamp (by omega)] at e_g65
  have hg65 := tl_up hg47 e_g65 rfl
  clear e_g65
  refine WX.s1 rfl rfl ?_
  refine WX.get1 (fs := [.ref 82, .ref 89, .ref 108, .ref 135, .ref 162, .ref 86, .ref 87, .int (nI 0), .ref 88]) rfl (by omega) (F_h65_81) rfl ?_
  refine WX.if_ rfl (fun c_70 => ?_) (fun c_70 => absurd (by decide) c_70)
  exact WX.ret0 rfl (kk h65 FR_h65 P_h65_la P_h65_he ⟨g65, F_h65_88, hg65⟩)
set_option maxRecDepth 20000 in
theorem x_pkeep1 {d n s : Nat} {h : Nat → aE} {ls : List Nat} {tC : Option Le} {rn : Nat} {nt : Nat → Nat} {g a86 : Nat → Int32} {l1 : Sq} {N : Nat} {vs1 : List Nat} {t1 : Tb} {m1 z1 : Nat} {vs2 : List Nat} {t2 : Tb} {m2 z2 : Nat} {vs3 : List Nat} {t3 : Tb} {m3 z3 : Nat} (hn : 190 ≤ n) (hls : LsOk ls) (hS : LiS h ls (litF tC ls)) (he : CoH h 92 tC) (hR : LiR h ls rn) (hg : ∀ q, q < 12 → g q = nI (nt q)) (hL : LatA h 87 l1) (hN : 1 ≤ N) (hN2 : N ≤ 2667) (hm1 : m1 ≤ 3) (hT1 : TbOk 35 512 t1) (hC1 : KC1 h vs1 t1 m1 z1) (X1 : ShX h (108 + 13) 35 512) (hm2 : m2 ≤ 3) (hT2 : TbOk 31 256 t2) (hC2 : KC2 h vs2 t2 m2 z2) (X2 : ShX h (135 + 13) 31 256) (hm3 : m3 ≤ 3) (hT3 : TbOk 52 512 t3) (hC3 : KC3 h vs3 t3 m3 z3) (X3 : ShX h (162 + 13) 52 512) (F_h_81 : h 81 = .inr (6, [.ref 82, .ref 89, .ref 108, .ref 135, .ref 162, .ref 86, .ref 87, .int (nI N), .ref 88])) (F_h_86 : h 86 = .inl (1, 3, .inl a86)) (F_h_88 : h 88 = .inl (1, 12, .inl g))  {Ψ : Option Value → aH → Prop} (kk : ∀ h', Fr h h' (fun x => x = 86 ∨ x = 88 ∨ (92 ≤ x ∧ x ≤ 95) ∨ (121 ≤ x ∧ x ≤ 127) ∨ (148 ≤ x ∧ x ≤ 154) ∨ (175 ≤ x ∧ x ≤ 181)) → LatA h' 86 l1 → CoH h' 92 (litT tC ls) → TlA h' (ntAt (ntAt (ntAt (ntAt (ntAt (ntAt nt 2 1) 3 N) (4 + (litF tC ls).1) 1) (8 + m1) 1) (8 + m2) 1) (8 + m3) 1) → HeldT h' (108 + 13) 35 512 (some t1) → HeldT h' (135 + 13) 31 256 (some t2) → HeldT h' (162 + 13) 52 512 (some t3) → Ψ none (n, s, h')) : WO (mM (d + 4)) 81 [.ref 81] (n, s, h) Ψ := by
  refine WO.of (Nat.le_of_ble_eq_true rfl) ?_
  have FR_h : Fr h h (fun x => x = 86 ∨ x = 88 ∨ (92 ≤ x ∧ x ≤ 95) ∨ (121 ≤ x ∧ x ≤ 127) ∨ (148 ≤ x ∧ x ≤ 154) ∨ (175 ≤ x ∧ x ≤ 181)) := Fr.rf
  obtain ⟨a87, F_h_87, l0, l1_, l2⟩ := id hL
  obtain ⟨sh, be, F_h_89, -⟩ := id hS
  have hk3 := lit_k tC ls
  show WX (lk tX6_keep) (mM (d + 3)) Ψ 0 [(0, .ref 81)] [] (n, s, h)
  have P_h_li := hS
  have P_h_he := he
  have P_h_lr := hR
  have P_h_c1 := hC1
  have P_h_x1 := X1
  have P_h_c2 := hC2
  have P_h_x2 := X2
  have P_h_c3 := hC3
  have P_h_x3 := X3
  have hB : aBig = 1000000 := rfl
  refine WX.s1 rfl rfl ?_
  refine WX.get1 (fs := [.ref 82, .ref 89, .ref 108, .ref 135, .ref 162, .ref 86, .ref 87, .int (nI N), .ref 88]) rfl (by omega) (F_h_81) rfl ?_
  refine WX.s1 rfl rfl ?_
  refine WX.s1 rfl rfl ?_
  refine WX.get1 (fs := [.ref 82, .ref 89, .ref 108, .ref 135, .ref 162, .ref 86, .ref 87, .int (nI N), .ref 88]) rfl (by omega) (F_h_81) rfl ?_
  refine WX.s1 rfl rfl ?_
  refine WX.s1 rfl rfl ?_
  refine WX.get1 (fs := [.ref 82, .ref 89, .ref 108, .ref 135, .ref 162, .ref 86, .ref 87, .int (nI N), .ref 88]) rfl (by omega) (F_h_81) rfl ?_
  refine WX.len1 rfl (Or.inl ⟨by omega, by decide⟩) (F_h_86) ?_
  refine WX.copyN rfl (Nat.le_of_ble_eq_true rfl) (Or.inl (by omega)) (F_h_87) (by omega) (F_h_86) (p := 0) (q := 0) (c := 3) rfl rfl rfl (by decide) (by decide) (by decide) (by decide) (fun g15 h15 e_g15 e_h15 => ?_)
  have F_h15_81 : h15 81 = .inr (6, [.ref 82, .ref 89, .ref 108, .ref 135, .ref 162, .ref 86, .ref 87, .int (nI N), .ref 88]) := by rw [e_h15, va_up_neq (by decide)]; exact F_h_81
  have F_h15_86 : h15 86 = .inl (1, 3, .inl g15) := by rw [e_h15]; exact va_up_eq
  have F_h15_88 : h15 88 = .inl (1, 12, .inl g) := by rw [e_h15, va_up_neq (by decide)]; exact F_h_88
  have F_h15_87 : h15 87 = .inl (1, 3, .inl a87) := by rw [e_h15, va_up_neq (by decide)]; exact F_h_87
  have F_h15_89 : h15 89 = .inr (5, [.ref 90, .ref 91, .int (nI ls.length), .ref 92, .ref 96, .ref 100, .ref 67, .ref 106, .int (nI (litF tC ls).1), .int (nI (litF tC ls).2.1), .int sh, .int be]) := by rw [e_h15, va_up_neq (by decide)]; exact F_h_89
  have P_h15_li : LiS h15 ls (litF tC ls) := P_h_li.zfr (Fr.of e_h15) (by omega)
  have P_h15_he : CoH h15 92 tC := P_h_he.zfr (Fr.of e_h15) (fun j h1 h2 => by omega)
  have P_h15_lr : LiR h15 ls rn := P_h_lr.zfr (Fr.of e_h15) (fun j h1 h2 => by omega)
  have P_h15_c1 : KC1 h15 vs1 t1 m1 z1 := P_h_c1.zfr (Fr.of e_h15) (fun j h1 h2 => by omega) (by omega) (by omega)
  have P_h15_x1 : ShX h15 (108 + 13) 35 512 := P_h_x1.zfr (Fr.of e_h15) (fun j h1 h2 => by omega)
  have P_h15_c2 : KC2 h15 vs2 t2 m2 z2 := P_h_c2.zfr (Fr.of e_h15) (fun j h1 h2 => by omega) (by omega) (by omega)
  have P_h15_x2 : ShX h15 (135 + 13) 31 256 := P_h_x2.zfr (Fr.of e_h15) (fun j h1 h2 => by omega)
  have P_h15_c3 : KC3 h15 vs3 t3 m3 z3 := P_h_c3.zfr (Fr.of e_h15) (fun j h1 h2 => by omega) (by omega) (by omega)
  have P_h15_x3 : ShX h15 (162 + 13) 52 512 := P_h_x3.zfr (Fr.of e_h15) (fun j h1 h2 => by omega)
  have FR_h15 : Fr h h15 (fun x => x = 86 ∨ x = 88 ∨ (92 ≤ x ∧ x ≤ 95) ∨ (121 ≤ x ∧ x ≤ 127) ∨ (148 ≤ x ∧ x ≤ 154) ∨ (175 ≤ x ∧ x ≤ 181)) := FR_h.zup e_h15 (by first | exact rfl | exact Or.inl rfl | exact Or.inr rfl | exact ⟨by decide, by decide⟩ | decide | omega)
  clear F_h_81 F_h_86 F_h_88 F_h_87 F_h_89 P_h_li P_h_he P_h_lr P_h_c1 P_h_x1 P_h_c2 P_h_x2 P_h_c3 P_h_x3 FR_h e_h15
  have hL6 : LatA h15 86 l1 := ⟨g15, F_h15_86, by rw [e_g15, cpy0 (by decide)]; exact l0, by rw [e_g15, cpy0 (by decide)]; exact l1_, by rw [e_g15, cpy0 (by decide)]; exact l2⟩
  clear F_h15_86 F_h15_87 l0 l1_ l2 e_g15
  have P_h15_la := hL6
  refine WX.s1 rfl rfl ?_
  refine WX.get1 (fs := [.ref 82, .ref 89, .ref 108, .ref 135, .ref 162, .ref 86, .ref 87, .int (nI N), .ref 88]) rfl (by omega) (F_h15_81) rfl ?_
  refine WX.callC (vs := [.ref 89]) rfl rfl rfl (Nat.le_of_ble_eq_true rfl) (rcv_ok (by omega) F_h15_89) ?_
  refine xl_keep hn hls P_h15_li P_h15_he P_h15_lr (fun h22 fr22 P_h22_he => ?_)
  have F_h22_81 : h22 81 = .inr (6, [.ref 82, .ref 89, .ref 108, .ref 135, .ref 162, .ref 86, .ref 87, .int (nI N), .ref 88]) := (fr22 _ (by first | decide | omega)).trans F_h15_81
  have F_h22_88 : h22 88 = .inl (1, 12, .inl g) := (fr22 _ (by first | decide | omega)).trans F_h15_88
  have F_h22_89 : h22 89 = .inr (5, [.ref 90, .ref 91, .int (nI ls.length), .ref 92, .ref 96, .ref 100, .ref 67, .ref 106, .int (nI (litF tC ls).1), .int (nI (litF tC ls).2.1), .int sh, .int be]) := (fr22 _ (by first | decide | omega)).trans F_h15_89
  have P_h22_li : LiS h22 ls (litF tC ls) := P_h15_li.zfr fr22 (by omega)
  have P_h22_c1 : KC1 h22 vs1 t1 m1 z1 := P_h15_c1.zfr fr22 (fun j h1 h2 => by omega) (by omega) (by omega)
  have P_h22_x1 : ShX h22 (108 + 13) 35 512 := P_h15_x1.zfr fr22 (fun j h1 h2 => by omega)
  have P_h22_c2 : KC2 h22 vs2 t2 m2 z2 := P_h15_c2.zfr fr22 (fun j h1 h2 => by omega) (by omega) (by omega)
  have P_h22_x2 : ShX h22 (135 + 13) 31 256 := P_h15_x2.zfr fr22 (fun j h1 h2 => by omega)
  have P_h22_c3 : KC3 h22 vs3 t3 m3 z3 := P_h15_c3.zfr fr22 (fun j h1 h2 => by omega) (by omega) (by omega)
  have P_h22_x3 : ShX h22 (162 + 13) 52 512 := P_h15_x3.zfr fr22 (fun j h1 h2 => by omega)
  have P_h22_la : LatA h22 86 l1 := P_h15_la.zfr fr22 (by omega)
  have FR_h22 : Fr h h22 (fun x => x = 86 ∨ x = 88 ∨ (92 ≤ x ∧ x ≤ 95) ∨ (121 ≤ x ∧ x ≤ 127) ∨ (148 ≤ x ∧ x ≤ 154) ∨ (175 ≤ x ∧ x ≤ 181)) := FR_h15.zsub fr22 (fun j hj => by first | exact hj | exact Or.inl hj | exact Or.inr hj | omega)
  show WX _ _ _ 25 [(0, .ref 81)] [] (n, s, h22)
  refine WX.s1 rfl rfl ?_
  refine WX.get1 (fs := [.ref 82, .ref 89, .ref 108, .ref 135, .ref 162, .ref 86, .ref 87, .int (nI N), .ref 88]) rfl (by omega) (F_h22_81) rfl ?_
  refine WX.s1 rfl rfl ?_
  refine WX.s1 rfl rfl ?_
  refine WX.iald1 rfl (Or.inl (by omega)) (F_h22_88) (by unfold vp_in; decide) ?_
  rw [show (2 : Int32).toNatClampNeg = 2 from by decide, hg 2 (by omega)]
  refine WX.s1 rfl rfl ?_
  refine WX.s1 (S' := [.int ((nI (nt 2)) + 1), .int 2, .ref 88]) rfl rfl ?_
  rw [show ((nI (nt 2)) + 1) = nI (nt 2 + 1) from nI_add (nt 2) 1]
  refine WX.iastN rfl (by omega) (F_h22_88) (by unfold vp_in; decide) (fun g34 h34 e_g34 e_h34 => ?_)
  try dsimp only at e_g34
  have F_h34_81 : h34 81 = .inr (6, [.ref 82, .ref 89, .ref 108, .ref 135, .ref 162, .ref 86, .ref 87, .int (nI N), .ref 88]) := by rw [e_h34, va_up_neq (by decide)]; exact F_h22_81
  have F_h34_88 : h34 88 = .inl (1, 12, .inl g34) := by rw [e_h34]; exact va_up_eq
  have F_h34_89 : h34 89 = .inr (5, [.ref 90, .ref 91, .int (nI ls.length), .ref 92, .ref 96, .ref 100, .ref 67, .ref 106, .int (nI (litF tC ls).1), .int (nI (litF tC ls).2.1), .int sh, .int be]) := by rw [e_h34, va_up_neq (by decide)]; exact F_h22_89
  have P_h34_li : LiS h34 ls (litF tC ls) := P_h22_li.zfr (Fr.of e_h34) (by omega)
  have P_h34_he : CoH h34 92 (litT tC ls) := P_h22_he.zfr (Fr.of e_h34) (fun j h1 h2 => by omega)
  have P_h34_c1 : KC1 h34 vs1 t1 m1 z1 := P_h22_c1.zfr (Fr.of e_h34) (fun j h1 h2 => by omega) (by omega) (by omega)
  have P_h34_x1 : ShX h34 (108 + 13) 35 512 := P_h22_x1.zfr (Fr.of e_h34) (fun j h1 h2 => by omega)
  have P_h34_c2 : KC2 h34 vs2 t2 m2 z2 := P_h22_c2.zfr (Fr.of e_h34) (fun j h1 h2 => by omega) (by omega) (by omega)
  have P_h34_x2 : ShX h34 (135 + 13) 31 256 := P_h22_x2.zfr (Fr.of e_h34) (fun j h1 h2 => by omega)
  have P_h34_c3 : KC3 h34 vs3 t3 m3 z3 := P_h22_c3.zfr (Fr.of e_h34) (fun j h1 h2 => by omega) (by omega) (by omega)
  have P_h34_x3 : ShX h34 (162 + 13) 52 512 := P_h22_x3.zfr (Fr.of e_h34) (fun j h1 h2 => by omega)
  have P_h34_la : LatA h34 86 l1 := P_h22_la.zfr (Fr.of e_h34) (by omega)
  have FR_h34 : Fr h h34 (fun x => x = 86 ∨ x = 88 ∨ (92 ≤ x ∧ x ≤ 95) ∨ (121 ≤ x ∧ x ≤ 127) ∨ (148 ≤ x ∧ x ≤ 154) ∨ (175 ≤ x ∧ x ≤ 181)) := FR_h22.zup e_h34 (by first | exact rfl | exact Or.inl rfl | exact Or.inr rfl | exact ⟨by decide, by decide⟩ | decide | omega)
  clear F_h22_81 F_h22_88 F_h22_89 P_h22_li P_h22_he P_h22_c1 P_h22_x1 P_h22_c2 P_h22_x2 P_h22_c3 P_h22_x3 P_h22_la FR_h22 e_h34
  rw [show (2 : Int32).toNatClampNeg = 2 from by decide] at e_g34
  have hg34 := tl_up hg e_g34 rfl
  clear e_g34
  refine WX.s1 rfl rfl ?_
  refine WX.get1 (fs := [.ref 82, .ref 89, .ref 108, .ref 135, .ref 162, .ref 86, .ref 87, .int (nI N), .ref 88]) rfl (by omega) (F_h34_81) rfl ?_
  refine WX.s1 rfl rfl ?_
  refine WX.s1 rfl rfl ?_
  refine WX.iald1 rfl (Or.inl (by omega)) (F_h34_88) (by unfold vp_in; decide) ?_
  rw [show (3 : Int32).toNatClampNeg = 3 from by decide, hg34 3 (by omega)]
  refine WX.s1 rfl rfl ?_
  refine WX.get1 (fs := [.ref 82, .ref 89, .ref 108, .ref 135, .ref 162, .ref 86, .ref 87, .int (nI N), .ref 88]) rfl (by omega) (F_h34_81) rfl ?_
  refine WX.s1 (S' := [.int ((nI ((ntAt nt 2 1) 3)) + (nI N)), .int 3, .ref 88]) rfl rfl ?_
  rw [show ((nI ((ntAt nt 2 1) 3)) + (nI N)) = nI ((ntAt nt 2 1) 3 + N) from nI_add ((ntAt nt 2 1) 3) N]
  refine WX.iastN rfl (by omega) (F_h34_88) (by unfold vp_in; decide) (fun g47 h47 e_g47 e_h47 => ?_)
  try dsimp only at e_g47
  have F_h47_81 : h47 81 = .inr (6, [.ref 82, .ref 89, .ref 108, .ref 135, .ref 162, .ref 86, .ref 87, .int (nI N), .ref 88]) := by rw [e_h47, va_up_neq (by decide)]; exact F_h34_81
  have F_h47_88 : h47 88 = .inl (1, 12, .inl g47) := by rw [e_h47]; exact va_up_eq
  have F_h47_89 : h47 89 = .inr (5, [.ref 90, .ref 91, .int (nI ls.length), .ref 92, .ref 96, .ref 100, .ref 67, .ref 106, .int (nI (litF tC ls).1), .int (nI (litF tC ls).2.1), .int sh, .int be]) := by rw [e_h47, va_up_neq (by decide)]; exact F_h34_89
  have P_h47_li : LiS h47 ls (litF tC ls) := P_h34_li.zfr (Fr.of e_h47) (by omega)
  have P_h47_he : CoH h47 92 (litT tC ls) := P_h34_he.zfr (Fr.of e_h47) (fun j h1 h2 => by omega)
  have P_h47_c1 : KC1 h47 vs1 t1 m1 z1 := P_h34_c1.zfr (Fr.of e_h47) (fun j h1 h2 => by omega) (by omega) (by omega)
  have P_h47_x1 : ShX h47 (108 + 13) 35 512 := P_h34_x1.zfr (Fr.of e_h47) (fun j h1 h2 => by omega)
  have P_h47_c2 : KC2 h47 vs2 t2 m2 z2 := P_h34_c2.zfr (Fr.of e_h47) (fun j h1 h2 => by omega) (by omega) (by omega)
  have P_h47_x2 : ShX h47 (135 + 13) 31 256 := P_h34_x2.zfr (Fr.of e_h47) (fun j h1 h2 => by omega)
  have P_h47_c3 : KC3 h47 vs3 t3 m3 z3 := P_h34_c3.zfr (Fr.of e_h47) (fun j h1 h2 => by omega) (by omega) (by omega)
  have P_h47_x3 : ShX h47 (162 + 13) 52 512 := P_h34_x3.zfr (Fr.of e_h47) (fun j h1 h2 => by omega)
  have P_h47_la : LatA h47 86 l1 := P_h34_la.zfr (Fr.of e_h47) (by omega)
  have FR_h47 : Fr h h47 (fun x => x = 86 ∨ x = 88 ∨ (92 ≤ x ∧ x ≤ 95) ∨ (121 ≤ x ∧ x ≤ 127) ∨ (148 ≤ x ∧ x ≤ 154) ∨ (175 ≤ x ∧ x ≤ 181)) := FR_h34.zup e_h47 (by first | exact rfl | exact Or.inl rfl | exact Or.inr rfl | exact ⟨by decide, by decide⟩ | decide | omega)
  clear F_h34_81 F_h34_88 F_h34_89 P_h34_li P_h34_he P_h34_c1 P_h34_x1 P_h34_c2 P_h34_x2 P_h34_c3 P_h34_x3 P_h34_la FR_h34 e_h47
  rw [show (3 : Int32).toNatClampNeg = 3 from by decide] at e_g47
  have hg47 := tl_up hg34 e_g47 rfl
  clear e_g47
  refine WX.s1 rfl rfl ?_
  refine WX.get1 (fs := [.ref 82, .ref 89, .ref 108, .ref 135, .ref 162, .ref 86, .ref 87, .int (nI N), .ref 88]) rfl (by omega) (F_h47_81) rfl ?_
  refine WX.s1 rfl rfl ?_
  refine WX.s1 rfl rfl ?_
  refine WX.get1 (fs := [.ref 82, .ref 89, .ref 108, .ref 135, .ref 162, .ref 86, .ref 87, .int (nI N), .ref 88]) rfl (by omega) (F_h47_81) rfl ?_
  refine WX.get1 (fs := [.ref 90, .ref 91, .int (nI ls.length), .ref 92, .ref 96, .ref 100, .ref 67, .ref 106, .int (nI (litF tC ls).1), .int (nI (litF tC ls).2.1), .int sh, .int be]) rfl (by omega) (F_h47_89) rfl ?_
  refine WX.s1 (S' := [.int (4 + (nI (litF tC ls).1)), .ref 88]) rfl rfl ?_
  rw [show (4 + (nI (litF tC ls).1)) = nI (4 + (litF tC ls).1) from nI_add 4 ((litF tC ls).1)]
  refine WX.s1 rfl rfl ?_
  refine WX.iald1 rfl (Or.inl (by omega)) (F_h47_88) (vp_in_nI (N := 12) (by omega) (by decide)) ?_
  rw [nI_clamp (by omega), hg47 (4 + (litF tC ls).1) (by omega)]
  refine WX.s1 rfl rfl ?_
  refine WX.s1 (S' := [.int ((nI ((ntAt (ntAt nt 2 1) 3 N) (4 + (litF tC ls).1))) + 1), .int (nI (4 + (litF tC ls).1)), .ref 88]) rfl rfl ?_
  rw [show ((nI ((ntAt (ntAt nt 2 1) 3 N) (4 + (litF tC ls).1))) + 1) = nI ((ntAt (ntAt nt 2 1) 3 N) (4 + (litF tC ls).1) + 1) from nI_add ((ntAt (ntAt nt 2 1) 3 N) (4 + (litF tC ls).1)) 1]
  refine WX.iastN rfl (by omega) (F_h47_88) (vp_in_nI (N := 12) (by omega) (by decide)) (fun g65 h65 e_g65 e_h65 => ?_)
  try dsimp only at e_g65
  have F_h65_81 : h65 81 = .inr (6, [.ref 82, .ref 89, .ref 108, .ref 135, .ref 162, .ref 86, .ref 87, .int (nI N), .ref 88]) := by rw [e_h65, va_up_neq (by decide)]; exact F_h47_81
  have F_h65_88 : h65 88 = .inl (1, 12, .inl g65) := by rw [e_h65]; exact va_up_eq
  have F_h65_89 : h65 89 = .inr (5, [.ref 90, .ref 91, .int (nI ls.length), .ref 92, .ref 96, .ref 100, .ref 67, .ref 106, .int (nI (litF tC ls).1), .int (nI (litF tC ls).2.1), .int sh, .int be]) := by rw [e_h65, va_up_neq (by decide)]; exact F_h47_89
  have P_h65_li : LiS h65 ls (litF tC ls) := P_h47_li.zfr (Fr.of e_h65) (by omega)
  have P_h65_he : CoH h65 92 (litT tC ls) := P_h47_he.zfr (Fr.of e_h65) (fun j h1 h2 => by omega)
  have P_h65_c1 : KC1 h65 vs1 t1 m1 z1 := P_h47_c1.zfr (Fr.of e_h65) (fun j h1 h2 => by omega) (by omega) (by omega)
  have P_h65_x1 : ShX h65 (108 + 13) 35 512 := P_h47_x1.zfr (Fr.of e_h65) (fun j h1 h2 => by omega)
  have P_h65_c2 : KC2 h65 vs2 t2 m2 z2 := P_h47_c2.zfr (Fr.of e_h65) (fun j h1 h2 => by omega) (by omega) (by omega)
  have P_h65_x2 : ShX h65 (135 + 13) 31 256 := P_h47_x2.zfr (Fr.of e_h65) (fun j h1 h2 => by omega)
  have P_h65_c3 : KC3 h65 vs3 t3 m3 z3 := P_h47_c3.zfr (Fr.of e_h65) (fun j h1 h2 => by omega) (by omega) (by omega)
  have P_h65_x3 : ShX h65 (162 + 13) 52 512 := P_h47_x3.zfr (Fr.of e_h65) (fun j h1 h2 => by omega)
  have P_h65_la : LatA h65 86 l1 := P_h47_la.zfr (Fr.of e_h65) (by omega)
  have FR_h65 : Fr h h65 (fun x => x = 86 ∨ x = 88 ∨ (92 ≤ x ∧ x ≤ 95) ∨ (121 ≤ x ∧ x ≤ 127) ∨ (148 ≤ x ∧ x ≤ 154) ∨ (175 ≤ x ∧ x ≤ 181)) := FR_h47.zup e_h65 (by first | exact rfl | exact Or.inl rfl | exact Or.inr rfl | exact ⟨by decide, by decide⟩ | decide | omega)
  clear F_h47_81 F_h47_88 F_h47_89 P_h47_li P_h47_he P_h47_c1 P_h47_x1 P_h47_c2 P_h47_x2 P_h47_c3 P_h47_x3 P_h47_la FR_h47 e_h65
  rw [nI_clamp (by omega)] at e_g65
  have hg65 := tl_up hg47 e_g65 rfl
  clear e_g65
  refine WX.s1 rfl rfl ?_
  refine WX.get1 (fs := [.ref 82, .ref 89, .ref 108, .ref 135, .ref 162, .ref 86, .ref 87, .int (nI N), .ref 88]) rfl (by omega) (F_h65_81) rfl ?_
  refine WX.if_ rfl (fun c_70 => absurd c_70 (fun zz_ => absurd ((nI_leI (a := N) (b := 0) (by omega) (by omega)).mp zz_) (Nat.not_le.mpr (by omega)))) (fun c_70 => ?_)
  clear c_70
  refine WX.s1 rfl rfl ?_
  refine WX.s1 rfl rfl ?_
  refine WX.get1 (fs := [.ref 82, .ref 89, .ref 108, .ref 135, .ref 162, .ref 86, .ref 87, .int (nI N), .ref 88]) rfl (by omega) (F_h65_81) rfl ?_
  refine WX.callC (vs := [.ref 81, .ref 108]) rfl rfl rfl (Nat.le_of_ble_eq_true rfl) (rcv_ok (by omega) F_h65_81) ?_
  refine x_keepTab hn (by omega) (by omega) (by decide) (by decide) hm1 hT1 P_h65_c1 P_h65_x1 hg65 F_h65_81 F_h65_88 (fun h78 fr78 P_h78_h1 P_h78_tl => ?_)
  have F_h78_81 : h78 81 = .inr (6, [.ref 82, .ref 89, .ref 108, .ref 135, .ref 162, .ref 86, .ref 87, .int (nI N), .ref 88]) := (fr78 _ (by first | decide | omega)).trans F_h65_81
  have F_h78_89 : h78 89 = .inr (5, [.ref 90, .ref 91, .int (nI ls.length), .ref 92, .ref 96, .ref 100, .ref 67, .ref 106, .int (nI (litF tC ls).1), .int (nI (litF tC ls).2.1), .int sh, .int be]) := (fr78 _ (by first | decide | omega)).trans F_h65_89
  have P_h78_li : LiS h78 ls (litF tC ls) := P_h65_li.zfr fr78 (by omega)
  have P_h78_he : CoH h78 92 (litT tC ls) := P_h65_he.zfr fr78 (fun j h1 h2 => by omega)
  have P_h78_c2 : KC2 h78 vs2 t2 m2 z2 := P_h65_c2.zfr fr78 (fun j h1 h2 => by omega) (by omega) (by omega)
  have P_h78_x2 : ShX h78 (135 + 13) 31 256 := P_h65_x2.zfr fr78 (fun j h1 h2 => by omega)
  have P_h78_c3 : KC3 h78 vs3 t3 m3 z3 := P_h65_c3.zfr fr78 (fun j h1 h2 => by omega) (by omega) (by omega)
  have P_h78_x3 : ShX h78 (162 + 13) 52 512 := P_h65_x3.zfr fr78 (fun j h1 h2 => by omega)
  have P_h78_la : LatA h78 86 l1 := P_h65_la.zfr fr78 (by omega)
  have FR_h78 : Fr h h78 (fun x => x = 86 ∨ x = 88 ∨ (92 ≤ x ∧ x ≤ 95) ∨ (121 ≤ x ∧ x ≤ 127) ∨ (148 ≤ x ∧ x ≤ 154) ∨ (175 ≤ x ∧ x ≤ 181)) := FR_h65.zsub fr78 (fun j hj => by first | exact hj | exact Or.inl hj | exact Or.inr hj | omega)
  show WX _ _ _ 81 [(0, .ref 81)] [] (n, s, h78)
  obtain ⟨gk1, F_h78_88, hk1⟩ := id P_h78_tl
  refine WX.s1 rfl rfl ?_
  refine WX.s1 rfl rfl ?_
  refine WX.get1 (fs := [.ref 82, .ref 89, .ref 108, .ref 135, .ref 162, .ref 86, .ref 87, .int (nI N), .ref 88]) rfl (by omega) (F_h78_81) rfl ?_
  refine WX.callC (vs := [.ref 81, .ref 135]) rfl rfl rfl (Nat.le_of_ble_eq_true rfl) (rcv_ok (by omega) F_h78_81) ?_
  refine x_keepTab hn (by omega) (by omega) (by decide) (by decide) hm2 hT2 P_h78_c2 P_h78_x2 hk1 F_h78_81 F_h78_88 (fun h86 fr86 P_h86_h2 P_h86_tl => ?_)
  have F_h86_81 : h86 81 = .inr (6, [.ref 82, .ref 89, .ref 108, .ref 135, .ref 162, .ref 86, .ref 87, .int (nI N), .ref 88]) := (fr86 _ (by first | decide | omega)).trans F_h78_81
  have F_h86_89 : h86 89 = .inr (5, [.ref 90, .ref 91, .int (nI ls.length), .ref 92, .ref 96, .ref 100, .ref 67, .ref 106, .int (nI (litF tC ls).1), .int (nI (litF tC ls).2.1), .int sh, .int be]) := (fr86 _ (by first | decide | omega)).trans F_h78_89
  have P_h86_li : LiS h86 ls (litF tC ls) := P_h78_li.zfr fr86 (by omega)
  have P_h86_he : CoH h86 92 (litT tC ls) := P_h78_he.zfr fr86 (fun j h1 h2 => by omega)
  have P_h86_c3 : KC3 h86 vs3 t3 m3 z3 := P_h78_c3.zfr fr86 (fun j h1 h2 => by omega) (by omega) (by omega)
  have P_h86_x3 : ShX h86 (162 + 13) 52 512 := P_h78_x3.zfr fr86 (fun j h1 h2 => by omega)
  have P_h86_la : LatA h86 86 l1 := P_h78_la.zfr fr86 (by omega)
  have P_h86_h1 : HeldT h86 (108 + 13) 35 512 (some t1) := P_h78_h1.zfr fr86 (fun j h1 h2 => by omega)
  have FR_h86 : Fr h h86 (fun x => x = 86 ∨ x = 88 ∨ (92 ≤ x ∧ x ≤ 95) ∨ (121 ≤ x ∧ x ≤ 127) ∨ (148 ≤ x ∧ x ≤ 154) ∨ (175 ≤ x ∧ x ≤ 181)) := FR_h78.zsub fr86 (fun j hj => by first | exact hj | exact Or.inl hj | exact Or.inr hj | omega)
  show WX _ _ _ 89 [(0, .ref 81)] [] (n, s, h86)
  obtain ⟨gk2, F_h86_88, hk2⟩ := id P_h86_tl
  refine WX.s1 rfl rfl ?_
  refine WX.s1 rfl rfl ?_
  refine WX.get1 (fs := [.ref 82, .ref 89, .ref 108, .ref 135, .ref 162, .ref 86, .ref 87, .int (nI N), .ref 88]) rfl (by omega) (F_h86_81) rfl ?_
  refine WX.callC (vs := [.ref 81, .ref 162]) rfl rfl rfl (Nat.le_of_ble_eq_true rfl) (rcv_ok (by omega) F_h86_81) ?_
  refine x_keepTab hn (by omega) (by omega) (by decide) (by decide) hm3 hT3 P_h86_c3 P_h86_x3 hk2 F_h86_81 F_h86_88 (fun h94 fr94 P_h94_h3 P_h94_tl => ?_)
  have F_h94_81 : h94 81 = .inr (6, [.ref 82, .ref 89, .ref 108, .ref 135, .ref 162, .ref 86, .ref 87, .int (nI N), .ref 88]) := (fr94 _ (by first | decide | omega)).trans F_h86_81
  have F_h94_89 : h94 89 = .inr (5, [.ref 90, .ref 91, .int (nI ls.length), .ref 92, .ref 96, .ref 100, .ref 67, .ref 106, .int (nI (litF tC ls).1), .int (nI (litF tC ls).2.1), .int sh, .int be]) := (fr94 _ (by first | decide | omega)).trans F_h86_89
  have P_h94_li : LiS h94 ls (litF tC ls) := P_h86_li.zfr fr94 (by omega)
  have P_h94_he : CoH h94 92 (litT tC ls) := P_h86_he.zfr fr94 (fun j h1 h2 => by omega)
  have P_h94_la : LatA h94 86 l1 := P_h86_la.zfr fr94 (by omega)
  have P_h94_h1 : HeldT h94 (108 + 13) 35 512 (some t1) := P_h86_h1.zfr fr94 (fun j h1 h2 => by omega)
  have P_h94_h2 : HeldT h94 (135 + 13) 31 256 (some t2) := P_h86_h2.zfr fr94 (fun j h1 h2 => by omega)
  have FR_h94 : Fr h h94 (fun x => x = 86 ∨ x = 88 ∨ (92 ≤ x ∧ x ≤ 95) ∨ (121 ≤ x ∧ x ≤ 127) ∨ (148 ≤ x ∧ x ≤ 154) ∨ (175 ≤ x ∧ x ≤ 181)) := FR_h86.zsub fr94 (fun j hj => by first | exact hj | exact Or.inl hj | exact Or.inr hj | omega)
  show WX _ _ _ 97 [(0, .ref 81)] [] (n, s, h94)
  exact WX.ret0 rfl (kk h94 FR_h94 P_h94_la P_h94_he P_h94_tl P_h94_h1 P_h94_h2 P_h94_h3)
