/-! press of the reference: its head, the whole call -/
set_option maxRecDepth 20000 in
theorem m_prC {d n s : Nat} {h : Nat → aE} {m : Nat} {I : Nat → Int32} {AR : Nat → Nat → Int32} {LN : Nat → Int64} {id way least fl e cut : Nat} {l lo ld : List Nat} {T : PkS} {ab : Nat → Nat} {sg : Nat} (hm : m + 43 < n) (M_h : MAt h m I AR LN) (hX : RfX I AR id way least l lo ld T ab) (hB : RfB l lo ld) (hid : id < 2 ^ 32) (hw : way ≤ 3) (hl3 : 3 ≤ least) (hl8 : least ≤ 8) (hfl : fl < 16) (he : e ≤ 11) (hc1 : 1 ≤ cut) (hc2 : cut ≤ 8000) (hO : PkOk T) (hsg : sg = sgN fl) (hF : FrameIs I AR (hdF fl e id (l).length)) (hN : NtM AR (fun _ => 0))  {Ψ : Option Value → aH → Prop} (k1 : 12000 < (prY fl e cut id way least ld l T).length → ∀ h' I' A' L', Fr h h' (inM m) → MAt h' m I' A' L' → RfX I' A' id way least l lo ld T ab → Ψ (some (.int (-1))) (n, s, h')) (k2 : (prY fl e cut id way least ld l T).length ≤ 12000 → ∀ h' I' A' L', Fr h h' (inM m) → MAt h' m I' A' L' → RfX I' A' id way least l (prY fl e cut id way least ld l T) ld T (prS fl e cut way least ld l T).2.2.2.2.2.2 → Ψ (some (.int (nI (prY fl e cut id way least ld l T).length))) (n, s, h')) : WX (lk tX12_press) (mM (d + 8)) Ψ 339 [(0, .ref m), (1, .int (nI fl)), (2, .int (nI e)), (3, .int (nI cut)), (4, .int (nI sg))] [] (n, s, h) := by
  have FR_h : Fr h h (inM m) := Fr.rf
  have FI_I : Fi I I (fun f => f = 3 ∨ f = 15 ∨ 20 ≤ f) := Fi.rf
  have FA_AR : FaS AR AR (fun b => b = 2 ∨ 8 ≤ b) := FaS.rf
  have K_I_1 : I 1 = nI (l).length := hX.1.1
  have K_I_4 : I 4 = nI way := hX.2.2.1
  have K_I_5 : I 5 = nI least := hX.2.2.2.1
  have K_I_7 : I 7 = nI (ld).length := hX.2.2.2.2.1.1
  have K_I_8 : I 8 = nI id := hX.2.2.2.2.2.1
  obtain ⟨hle, hld, hlo, hlb, hlb2⟩ := idP hB
  have hs1 := sg_le fl
  refine WX.s1 rfl rfl ?_
  have t358 : ∀ (win : Nat), win = (winN fl e (l).length) → WX (lk tX12_press) (mM (d + 8)) Ψ 358 [(0, .ref m), (1, .int (nI fl)), (2, .int (nI e)), (3, .int (nI cut)), (4, .int (nI sg))] [.int (nI win), .ref m] (n, s, h) := by
    intro win ewn
    refine WX.mput rfl hm M_h (rfl) (by decide) (fun _ => rfl) (fun h358n1 I358n1 e_I358n1 M_h358n1 frh358n1 => ?_)
    have z27 : ∀ f, ¬ f = 27 → I358n1 f = I f := fun f hf => by rw [e_I358n1]; exact pk_un hf
    have FR_h358n1 := (FR_h).ztr frh358n1
    have FI_I358n1 : Fi I I358n1 (fun f => f = 3 ∨ f = 15 ∨ 20 ≤ f) := (FI_I).zup e_I358n1 (by first | exact rfl | decide | omega)
    have K_I358n1_1 : I358n1 1 = (nI (l).length) := by rw [e_I358n1]; exact (pk_un (by decide)).trans K_I_1
    have K_I358n1_4 : I358n1 4 = (nI way) := by rw [e_I358n1]; exact (pk_un (by decide)).trans K_I_4
    have K_I358n1_5 : I358n1 5 = (nI least) := by rw [e_I358n1]; exact (pk_un (by decide)).trans K_I_5
    have K_I358n1_7 : I358n1 7 = (nI (ld).length) := by rw [e_I358n1]; exact (pk_un (by decide)).trans K_I_7
    have K_I358n1_8 : I358n1 8 = (nI id) := by rw [e_I358n1]; exact (pk_un (by decide)).trans K_I_8
    have K_I358n1_27 : I358n1 27 = (nI win) := by rw [e_I358n1]; exact pk_us
    clear M_h FR_h FI_I e_I358n1 frh358n1 K_I_1 K_I_4 K_I_5 K_I_7 K_I_8
    have fi27 : ∀ f, ¬ f = 27 → I358n1 f = I f := z27
    refine WX.s1 rfl rfl ?_
    refine WX.callC (vs := [.ref m]) rfl rfl rfl (Nat.le_of_ble_eq_true rfl) ((M_h358n1).rcv hm) ?_
    have hX2 : RfX I358n1 AR id way least l lo ld T ab := (hX).mv (P := fun f => f = 27) (Q := fun _ => False) (fun f hf => fi27 f hf) (fun b hb => rfl) (fun f h => by omega) (fun b h z => z) (fun z => z) (by obtain ⟨c, w, q⟩ := hX.2.2.2.2.2.2.2.1; exact ⟨c, w, (q).fa (fi27 38 (by decide)) rfl⟩)
    refine m_begF (d := d + 7) hm M_h358n1 hO hX2.2.2.2.2.2.2.1 (fun hf If_ Af frf M_hf fif faf hU => ?_)
    have hX3 : RfX If_ Af id way least l lo ld T ab := (hX2).mv fif faf (fun f h => by omega) (fun b h => by omega) (by decide) (by obtain ⟨c, w, q⟩ := hX2.2.2.2.2.2.2.2.1; exact ⟨c, w, (q).fa (fif 38 (by decide)) (faf 24 (by decide))⟩)
    have hF3 : FrameIs If_ Af (hdF fl e id (l).length) := (hF).fa ((fif 40 (by decide)).trans (fi27 40 (by decide))) (faf 25 (by decide))
    have hR3 : RefS If_ Af (pkNt T (fun _ => 0)) := ⟨hU.1, hU.2.1, hU.2.2.1, hU.2.2.2.1, hU.2.2.2.2, fun q hq => by rw [faf 42 (by decide)]; exact hN q hq⟩
    have FR_hf := (FR_h358n1).ztr frf
    have K_If__27 : If_ 27 = nI (winN fl e (l).length) := (fif 27 (by decide)).trans ((K_I358n1_27).trans (congrArg nI ewn))
    show WX _ _ _ 365 [(0, .ref m), (1, .int (nI fl)), (2, .int (nI e)), (3, .int (nI cut)), (4, .int (nI sg))] [] (n, s, hf)
    refine WX.s1 rfl rfl ?_
    refine WX.s1 (L' := [(0, .ref m), (1, .int (nI fl)), (2, .int (nI e)), (3, .int (nI cut)), (4, .int (nI sg)), (10, .int 0)]) rfl rfl ?_
    refine WX.s1 rfl rfl ?_
    refine WX.s1 (L' := [(0, .ref m), (1, .int (nI fl)), (2, .int (nI e)), (3, .int (nI cut)), (4, .int (nI sg)), (10, .int 0), (11, .int 1)]) rfl rfl ?_
    refine WX.keep (y := 208) [0, 1, 3, 10, 11] (show ([0, 1, 2, 3, 4, 10, 11] : List Nat).Nodup by decide) rfl ?_
    show WX (lk tX12_press) (mM (d + 8)) Ψ 371 [(0, .ref m), (1, .int (nI fl)), (3, .int (nI cut)), (10, .int (nI 0)), (11, .int 1)] [] (n, s, hf)
    exact m_prLp (d := d) (f := 0) (S := (pkNt T (fun _ => 0))) (acc := []) ((l).length + 1) hm M_hf hX3 hB hid hw hl3 hl8 hfl he hc1 hc2 hO (by omega) (by omega) hO rfl (by rw [List.append_nil]; exact hF3) (by decide) hR3 K_If__27 (fun z h9 I9 A9 L9 f9 M9 q9 => k1 z h9 I9 A9 L9 ((FR_hf).ztr f9) M9 q9) (fun z h9 I9 A9 L9 f9 M9 q9 => k2 z h9 I9 A9 L9 ((FR_hf).ztr f9) M9 q9)
  refine WX.s1 rfl rfl ?_
  refine WX.if_ rfl (fun c_342 => ?_) (fun c_342 => ?_)
  · skip
    have n_342 : sg = 0 := (nI_eq (a := sg) (b := 0) (by omega) (by omega)).mp c_342
    refine WX.s1 rfl rfl ?_
    refine WX.s1 rfl rfl ?_
    refine WX.s1 rfl rfl ?_
    refine WX.s1 (S' := [.int (10 + (nI e)), .int 1, .ref m]) rfl rfl ?_
    rw [show (10 + (nI e)) = nI (10 + e) from nI_add 10 e]
    refine WX.s1 (S' := [.int (1 <<< ((nI (10 + e)) &&& 31)), .ref m]) rfl rfl ?_
    rw [s_sh e he]
    exact t358 _ (by unfold winN; rw [if_neg (by omega)])
  · skip
    have n_342 : ¬ sg = 0 := fun zz_ => c_342 ((nI_eq (a := sg) (b := 0) (by omega) (by omega)).mpr zz_)
    refine WX.s1 rfl rfl ?_
    refine WX.mgetK (x := (nI (l).length)) rfl hm M_h rfl K_I_1 ?_
    refine WX.s1 rfl rfl ?_
    exact t358 _ (by unfold winN; rw [if_pos (by omega)])
set_option maxRecDepth 20000 in
theorem m_prB {d n s : Nat} {h : Nat → aE} {m : Nat} {I : Nat → Int32} {AR : Nat → Nat → Int32} {LN : Nat → Int64} {id way least fl e cut : Nat} {l lo ld : List Nat} {T : PkS} {ab : Nat → Nat} {sg sz sk ik : Nat} (hm : m + 43 < n) (M_h : MAt h m I AR LN) (hX : RfX I AR id way least l lo ld T ab) (hB : RfB l lo ld) (hid : id < 2 ^ 32) (hw : way ≤ 3) (hl3 : 3 ≤ least) (hl8 : least ≤ 8) (hfl : fl < 16) (he : e ≤ 11) (hc1 : 1 ≤ cut) (hc2 : cut ≤ 8000) (hO : PkOk T) (hsg : sg = sgN fl) (hsz : sz = szN fl) (hsk : sk = skN fl (l).length) (hik : ik = ikN fl id) (hF : FrameIs I AR (leBy 4247762216 4 ++ ([hd1 fl id (l).length] ++ hdE fl e))) (hN : NtM AR (fun _ => 0))  {Ψ : Option Value → aH → Prop} (k1 : 12000 < (prY fl e cut id way least ld l T).length → ∀ h' I' A' L', Fr h h' (inM m) → MAt h' m I' A' L' → RfX I' A' id way least l lo ld T ab → Ψ (some (.int (-1))) (n, s, h')) (k2 : (prY fl e cut id way least ld l T).length ≤ 12000 → ∀ h' I' A' L', Fr h h' (inM m) → MAt h' m I' A' L' → RfX I' A' id way least l (prY fl e cut id way least ld l T) ld T (prS fl e cut way least ld l T).2.2.2.2.2.2 → Ψ (some (.int (nI (prY fl e cut id way least ld l T).length))) (n, s, h')) : WX (lk tX12_press) (mM (d + 8)) Ψ 269 [(0, .ref m), (1, .int (nI fl)), (2, .int (nI e)), (3, .int (nI cut)), (4, .int (nI sg)), (5, .int (nI sz)), (6, .int (nI sk)), (7, .long (lN id)), (9, .int (nI ik))] [] (n, s, h) := by
  have FR_h : Fr h h (inM m) := Fr.rf
  have FI_I : Fi I I (fun f => f = 3 ∨ f = 15 ∨ 20 ≤ f) := Fi.rf
  have FA_AR : FaS AR AR (fun b => b = 2 ∨ 8 ≤ b) := FaS.rf
  have K_I_1 : I 1 = nI (l).length := hX.1.1
  have K_I_4 : I 4 = nI way := hX.2.2.1
  have K_I_5 : I 5 = nI least := hX.2.2.2.1
  have K_I_7 : I 7 = nI (ld).length := hX.2.2.2.2.1.1
  have K_I_8 : I 8 = nI id := hX.2.2.2.2.2.1
  obtain ⟨hle, hld, hlo, hlb, hlb2⟩ := idP hB
  have hszl := sz_le fl
  have hs1 := sk_le fl (l).length
  have hs2 := ik_le fl id
  have hhe : (hdE fl e).length ≤ 1 := by unfold hdE; split <;> first | exact Nat.zero_le _ | exact Nat.le_refl 1
  have hlen : (leBy 4247762216 4 ++ ([hd1 fl id (l).length] ++ hdE fl e)).length ≤ 6 := by simp only [List.length_append, leBy_len, List.length_singleton]; omega
  refine WX.s1 rfl rfl ?_
  refine WX.s1 rfl rfl ?_
  have t284 : ∀ (kb : Nat), kb = ikB (ikN fl id) → WX (lk tX12_press) (mM (d + 8)) Ψ 284 [(0, .ref m), (1, .int (nI fl)), (2, .int (nI e)), (3, .int (nI cut)), (4, .int (nI sg)), (5, .int (nI sz)), (6, .int (nI sk)), (7, .long (lN id)), (9, .int (nI ik))] [.int (nI kb), .long (lN id), .ref m] (n, s, h) := by
    intro kb ekb
    have hkb : kb ≤ 4 := by rw [ekb]; unfold ikB; split <;> omega
    refine WX.callC (vs := [.ref m, .long (lN id), .int (nI kb)]) rfl rfl rfl (Nat.le_of_ble_eq_true rfl) ((M_h).rcv hm) ?_
    refine m_sayNumL (d := d + 6) (b := kb) (v := lN id) hm M_h hF (by omega) (by omega) (fun h284n1 I284n1 A284n1 fr284n1 M_h284n1 fi284n1 fa284n1 hF284n1 => ?_)
    have FR_h284n1 := (FR_h).ztr fr284n1
    have K_I284n1_1 : I284n1 1 = (nI (l).length) := (fi284n1 1 (by decide)).trans K_I_1
    have K_I284n1_4 : I284n1 4 = (nI way) := (fi284n1 4 (by decide)).trans K_I_4
    have K_I284n1_5 : I284n1 5 = (nI least) := (fi284n1 5 (by decide)).trans K_I_5
    have K_I284n1_7 : I284n1 7 = (nI (ld).length) := (fi284n1 7 (by decide)).trans K_I_7
    have K_I284n1_8 : I284n1 8 = (nI id) := (fi284n1 8 (by decide)).trans K_I_8
    have FI_I284n1 : Fi I I284n1 (fun f => f = 3 ∨ f = 15 ∨ 20 ≤ f) := (FI_I).zsub fi284n1 (fun j hj => by first | exact hj | omega)
    have FA_A284n1 : FaS AR A284n1 (fun b => b = 2 ∨ 8 ≤ b) := (FA_AR).ztr ((fa284n1).toS (by omega))
    rw [leL_lN (by omega), ekb] at hF284n1
    have hX1 : RfX I284n1 A284n1 id way least l lo ld T ab := (hX).mv fi284n1 ((fa284n1).toS (by omega) : FaS AR A284n1 (fun b => b = 25)) (fun f h => by omega) (fun b h => by omega) (by decide) (by obtain ⟨c, w, q⟩ := hX.2.2.2.2.2.2.2.1; exact ⟨c, w, (q).fa (fi284n1 38 (by decide)) (fa284n1 24 (by decide))⟩)
    have hN1 : NtM A284n1 (fun _ => 0) := fun q hq => by rw [fa284n1 42 (by decide)]; exact hN q hq
    have hF1 := hF284n1
    simp only [List.append_assoc] at hF1
    have hlen1 : (leBy 4247762216 4 ++ ([hd1 fl id (l).length] ++ (hdE fl e ++ leBy id (ikB (ikN fl id))))).length ≤ 10 := by simp only [List.length_append, leBy_len, List.length_singleton]; omega
    show WX _ _ _ 287 [(0, .ref m), (1, .int (nI fl)), (2, .int (nI e)), (3, .int (nI cut)), (4, .int (nI sg)), (5, .int (nI sz)), (6, .int (nI sk)), (7, .long (lN id)), (9, .int (nI ik))] [] (n, s, h284n1)
    refine WX.s1 rfl rfl ?_
    refine WX.if_ rfl (fun c_289 => ?_) (fun c_289 => ?_)
    · skip
      have n_289 : sz = 0 := (nI_eq (a := sz) (b := 0) (by omega) (by omega)).mp c_289
      refine WX.keep (y := 208) [0, 1, 2, 3, 4] (show ([0, 1, 2, 3, 4, 5, 6, 7, 9] : List Nat).Nodup by decide) rfl ?_
      exact m_prC (d := d) (sg := sg) hm M_h284n1 hX1 hB hid hw hl3 hl8 hfl he hc1 hc2 hO hsg (by unfold hdF hdZ; rw [if_neg (by omega), List.append_nil]; exact hF1) hN1 (fun z h9 I9 A9 L9 f9 M9 q9 => k1 z h9 I9 A9 L9 ((FR_h284n1).ztr f9) M9 q9) (fun z h9 I9 A9 L9 f9 M9 q9 => k2 z h9 I9 A9 L9 ((FR_h284n1).ztr f9) M9 q9)
    · skip
      have n_289 : ¬ sz = 0 := fun zz_ => c_289 ((nI_eq (a := sz) (b := 0) (by omega) (by omega)).mpr zz_)
      refine WX.s1 rfl rfl ?_
      have t316 : ∀ (v : Nat), v = (if skN fl (l).length = 1 then (l).length - 256 else (l).length) → WX (lk tX12_press) (mM (d + 8)) Ψ 316 [(0, .ref m), (1, .int (nI fl)), (2, .int (nI e)), (3, .int (nI cut)), (4, .int (nI sg)), (5, .int (nI sz)), (6, .int (nI sk)), (7, .long (lN id)), (9, .int (nI ik))] [.long (lN v), .ref m] (n, s, h284n1) := by
        intro v ev
        have hvb : v ≤ 8000 := by rw [ev]; split <;> omega
        have t336 : ∀ (nb : Nat), nb = 2 ^ sk → WX (lk tX12_press) (mM (d + 8)) Ψ 336 [(0, .ref m), (1, .int (nI fl)), (2, .int (nI e)), (3, .int (nI cut)), (4, .int (nI sg)), (5, .int (nI sz)), (6, .int (nI sk)), (7, .long (lN id)), (9, .int (nI ik))] [.int (nI nb), .long (lN v), .ref m] (n, s, h284n1) := by
          intro nb enb
          have hnb4 : nb ≤ 4 := by rw [enb]; exact Nat.le_trans (Nat.pow_le_pow_right (by decide) (show sk ≤ 2 by omega)) (by decide)
          refine WX.callC (vs := [.ref m, .long (lN v), .int (nI nb)]) rfl rfl rfl (Nat.le_of_ble_eq_true rfl) ((M_h284n1).rcv hm) ?_
          refine m_sayNumL (d := d + 6) (b := nb) (v := lN v) hm M_h284n1 hF1 (by omega) (by omega) (fun h336n2 I336n2 A336n2 fr336n2 M_h336n2 fi336n2 fa336n2 hF336n2 => ?_)
          have FR_h336n2 := (FR_h284n1).ztr fr336n2
          have K_I336n2_1 : I336n2 1 = (nI (l).length) := (fi336n2 1 (by decide)).trans K_I284n1_1
          have K_I336n2_4 : I336n2 4 = (nI way) := (fi336n2 4 (by decide)).trans K_I284n1_4
          have K_I336n2_5 : I336n2 5 = (nI least) := (fi336n2 5 (by decide)).trans K_I284n1_5
          have K_I336n2_7 : I336n2 7 = (nI (ld).length) := (fi336n2 7 (by decide)).trans K_I284n1_7
          have K_I336n2_8 : I336n2 8 = (nI id) := (fi336n2 8 (by decide)).trans K_I284n1_8
          have FI_I336n2 : Fi I I336n2 (fun f => f = 3 ∨ f = 15 ∨ 20 ≤ f) := (FI_I284n1).zsub fi336n2 (fun j hj => by first | exact hj | omega)
          have FA_A336n2 : FaS AR A336n2 (fun b => b = 2 ∨ 8 ≤ b) := (FA_A284n1).ztr ((fa336n2).toS (by omega))
          rw [leL_lN (by omega), enb] at hF336n2
          have hX2 : RfX I336n2 A336n2 id way least l lo ld T ab := (hX1).mv fi336n2 ((fa336n2).toS (by omega) : FaS A284n1 A336n2 (fun b => b = 25)) (fun f h => by omega) (fun b h => by omega) (by decide) (by obtain ⟨c, w, q⟩ := hX1.2.2.2.2.2.2.2.1; exact ⟨c, w, (q).fa (fi336n2 38 (by decide)) (fa336n2 24 (by decide))⟩)
          have hN2 : NtM A336n2 (fun _ => 0) := fun q hq => by rw [fa336n2 42 (by decide)]; exact hN1 q hq
          have hF2 := hF336n2
          simp only [List.append_assoc] at hF2
          show WX _ _ _ 339 [(0, .ref m), (1, .int (nI fl)), (2, .int (nI e)), (3, .int (nI cut)), (4, .int (nI sg)), (5, .int (nI sz)), (6, .int (nI sk)), (7, .long (lN id)), (9, .int (nI ik))] [] (n, s, h336n2)
          refine WX.keep (y := 208) [0, 1, 2, 3, 4] (show ([0, 1, 2, 3, 4, 5, 6, 7, 9] : List Nat).Nodup by decide) rfl ?_
          exact m_prC (d := d) (sg := sg) hm M_h336n2 hX2 hB hid hw hl3 hl8 hfl he hc1 hc2 hO hsg (by unfold hdF hdZ; rw [if_pos (by omega), ← ev, ← hsk]; exact hF2) hN2 (fun z h9 I9 A9 L9 f9 M9 q9 => k1 z h9 I9 A9 L9 ((FR_h336n2).ztr f9) M9 q9) (fun z h9 I9 A9 L9 f9 M9 q9 => k2 z h9 I9 A9 L9 ((FR_h336n2).ztr f9) M9 q9)
        refine WX.s1 rfl rfl ?_
        refine WX.if_ rfl (fun c_318 => ?_) (fun c_318 => ?_)
        · skip
          have n_318 : ¬ sk = 0 := fun zz_ => c_318 ((nI_eq (a := sk) (b := 0) (by omega) (by omega)).mpr zz_)
          refine WX.s1 rfl rfl ?_
          refine WX.s1 rfl rfl ?_
          refine WX.icmp rfl (fun c_328 => ?_) (fun c_328 => ?_)
          · skip
            have n_328 : ¬ sk = 1 := fun zz_ => c_328 ((nI_eq (a := sk) (b := 1) (by omega) (by omega)).mpr zz_)
            refine WX.s1 rfl rfl ?_
            exact t336 4 (by rw [show sk = 2 by omega])
          · skip
            have n_328 : sk = 1 := (nI_eq (a := sk) (b := 1) (by omega) (by omega)).mp (Classical.not_not.mp c_328)
            refine WX.s1 rfl rfl ?_
            refine WX.s1 rfl rfl ?_
            exact t336 2 (by rw [show sk = 1 by omega])
        · skip
          have n_318 : sk = 0 := (nI_eq (a := sk) (b := 0) (by omega) (by omega)).mp (Classical.not_not.mp c_318)
          refine WX.s1 rfl rfl ?_
          refine WX.s1 rfl rfl ?_
          exact t336 1 (by rw [show sk = 0 by omega])
      refine WX.s1 rfl rfl ?_
      refine WX.s1 rfl rfl ?_
      refine WX.icmp rfl (fun c_296 => ?_) (fun c_296 => ?_)
      · skip
        have n_296 : ¬ sk = 1 := fun zz_ => c_296 ((nI_eq (a := sk) (b := 1) (by omega) (by omega)).mpr zz_)
        refine WX.s1 rfl rfl ?_
        refine WX.mgetK (x := (nI (l).length)) rfl hm M_h284n1 rfl K_I284n1_1 ?_
        refine WX.s1 (S' := [.long ((nI (l).length).toInt64), .ref m]) rfl rfl ?_
        rw [nI_l (by omega)]
        exact t316 _ (by rw [if_neg (by omega)])
      · skip
        have n_296 : sk = 1 := (nI_eq (a := sk) (b := 1) (by omega) (by omega)).mp (Classical.not_not.mp c_296)
        refine WX.s1 rfl rfl ?_
        refine WX.mgetK (x := (nI (l).length)) rfl hm M_h284n1 rfl K_I284n1_1 ?_
        refine WX.s1 rfl rfl ?_
        refine WX.s1 (S' := [.int ((nI (l).length) - 256), .ref m]) rfl rfl ?_
        rw [show nI (l).length - 256 = nI ((l).length - 256) from nI_subN (a := (l).length) (b := 256) (by have e1 : skN fl (l).length = 1 := by { omega }; unfold skN skV at e1; split at e1 <;> first | omega | (split at e1 <;> first | omega | (split at e1 <;> omega)))]
        refine WX.s1 (S' := [.long ((nI ((l).length - 256)).toInt64), .ref m]) rfl rfl ?_
        rw [nI_l (by omega)]
        refine WX.s1 rfl rfl ?_
        exact t316 _ (by rw [if_pos (by omega)])
  refine WX.s1 rfl rfl ?_
  refine WX.s1 rfl rfl ?_
  refine WX.icmp rfl (fun c_275 => ?_) (fun c_275 => ?_)
  · skip
    have n_275 : ¬ ik = 3 := fun zz_ => c_275 ((nI_eq (a := ik) (b := 3) (by omega) (by omega)).mpr zz_)
    refine WX.s1 rfl rfl ?_
    exact t284 _ (by unfold ikB; rw [if_neg (by omega)]; omega)
  · skip
    have n_275 : ik = 3 := (nI_eq (a := ik) (b := 3) (by omega) (by omega)).mp (Classical.not_not.mp c_275)
    refine WX.s1 rfl rfl ?_
    refine WX.s1 rfl rfl ?_
    exact t284 4 (by unfold ikB; rw [if_pos (by omega)])
set_option maxRecDepth 20000 in
theorem m_prA {d n s : Nat} {h : Nat → aE} {m : Nat} {I : Nat → Int32} {AR : Nat → Nat → Int32} {LN : Nat → Int64} {id way least fl e cut : Nat} {l lo ld : List Nat} {T : PkS} {ab : Nat → Nat} {sg : Nat} (hm : m + 43 < n) (M_h : MAt h m I AR LN) (hX : RfX I AR id way least l lo ld T ab) (hB : RfB l lo ld) (hid : id < 2 ^ 32) (hw : way ≤ 3) (hl3 : 3 ≤ least) (hl8 : least ≤ 8) (hfl : fl < 16) (he : e ≤ 11) (hc1 : 1 ≤ cut) (hc2 : cut ≤ 8000) (hO : PkOk T) (hsg : sg = sgN fl)  {Ψ : Option Value → aH → Prop} (k1 : 12000 < (prY fl e cut id way least ld l T).length → ∀ h' I' A' L', Fr h h' (inM m) → MAt h' m I' A' L' → RfX I' A' id way least l lo ld T ab → Ψ (some (.int (-1))) (n, s, h')) (k2 : (prY fl e cut id way least ld l T).length ≤ 12000 → ∀ h' I' A' L', Fr h h' (inM m) → MAt h' m I' A' L' → RfX I' A' id way least l (prY fl e cut id way least ld l T) ld T (prS fl e cut way least ld l T).2.2.2.2.2.2 → Ψ (some (.int (nI (prY fl e cut id way least ld l T).length))) (n, s, h')) : WX (lk tX12_press) (mM (d + 8)) Ψ 62 [(0, .ref m), (1, .int (nI fl)), (2, .int (nI e)), (3, .int (nI cut)), (4, .int (nI sg))] [] (n, s, h) := by
  have FR_h : Fr h h (inM m) := Fr.rf
  have FI_I : Fi I I (fun f => f = 3 ∨ f = 15 ∨ 20 ≤ f) := Fi.rf
  have FA_AR : FaS AR AR (fun b => b = 2 ∨ 8 ≤ b) := FaS.rf
  have K_I_1 : I 1 = nI (l).length := hX.1.1
  have K_I_4 : I 4 = nI way := hX.2.2.1
  have K_I_5 : I 5 = nI least := hX.2.2.2.1
  have K_I_7 : I 7 = nI (ld).length := hX.2.2.2.2.1.1
  have K_I_8 : I 8 = nI id := hX.2.2.2.2.2.1
  obtain ⟨hle, hld, hlo, hlb, hlb2⟩ := idP hB
  have hszl := sz_le fl
  have hs0 := sg_le fl
  have hs1 := sk_le fl (l).length
  have hs2 := ik_le fl id
  refine WX.s1 rfl rfl ?_
  refine WX.s1 (L' := [(0, .ref m), (1, .int (nI fl)), (2, .int (nI e)), (3, .int (nI cut)), (4, .int (nI sg)), (5, .int 0)]) rfl rfl ?_
  have lp : ∀ (t i : Nat) (hL : Nat → aE) (AL : Nat → Nat → Int32), i + t = 12 → Fr h hL (inM m) → MAt hL m I AL LN → FaS AR AL (fun b => b = 42) → (∀ q, q < i → AL 42 q = 0) → WX (lk tX12_press) (mM (d + 8)) Ψ 65 [(0, .ref m), (1, .int (nI fl)), (2, .int (nI e)), (3, .int (nI cut)), (4, .int (nI sg)), (5, .int (nI i))] [] (n, s, hL) := by
    clear M_h FR_h
    intro t
    induction t with
    | zero =>
      intro i hL AL ht FR_hL M_hL faL hq
      obtain rfl : i = 12 := by omega
      have FA_AL : FaS AR AL (fun b => b = 2 ∨ 8 ≤ b) := (faL).mono (fun x hx => by omega)
      have hN0 : NtM AL (fun _ => 0) := fun q h => hq q h
      refine WX.s1 rfl rfl ?_
      refine WX.s1 rfl rfl ?_
      refine WX.icmp rfl (fun c_69 => ?_) (fun c_69 => absurd ((nI_leI (a := 12) (b := 12) (by omega) (by omega)).mpr (by omega)) c_69)
      clear c_69
      refine WX.s1 rfl rfl ?_
      refine WX.s1 rfl rfl ?_
      refine WX.mput rfl hm M_hL (rfl) (by decide) (fun _ => rfl) (fun h88n1 I88n1 e_I88n1 M_h88n1 frh88n1 => ?_)
      have z40 : ∀ f, ¬ f = 40 → I88n1 f = I f := fun f hf => by rw [e_I88n1]; exact pk_un hf
      have FR_h88n1 := (FR_hL).ztr frh88n1
      have FI_I88n1 : Fi I I88n1 (fun f => f = 3 ∨ f = 15 ∨ 20 ≤ f) := (FI_I).zup e_I88n1 (by first | exact rfl | decide | omega)
      have K_I88n1_1 : I88n1 1 = (nI (l).length) := by rw [e_I88n1]; exact (pk_un (by decide)).trans K_I_1
      have K_I88n1_4 : I88n1 4 = (nI way) := by rw [e_I88n1]; exact (pk_un (by decide)).trans K_I_4
      have K_I88n1_5 : I88n1 5 = (nI least) := by rw [e_I88n1]; exact (pk_un (by decide)).trans K_I_5
      have K_I88n1_7 : I88n1 7 = (nI (ld).length) := by rw [e_I88n1]; exact (pk_un (by decide)).trans K_I_7
      have K_I88n1_8 : I88n1 8 = (nI id) := by rw [e_I88n1]; exact (pk_un (by decide)).trans K_I_8
      have K_I88n1_40 : I88n1 40 = 0 := by rw [e_I88n1]; exact pk_us
      clear M_hL FR_hL FI_I e_I88n1 frh88n1 K_I_1 K_I_4 K_I_5 K_I_7 K_I_8
      have hX0 : RfX I88n1 AL id way least l lo ld T ab := (hX).mv (P := fun f => f = 40) (fun f hf => z40 f hf) faL (fun f h => by omega) (fun b h => by omega) (by decide) (by obtain ⟨c, w, q⟩ := hX.2.2.2.2.2.2.2.1; exact ⟨c, w, (q).fa (z40 38 (by decide)) (faL 24 (by decide))⟩)
      have hF0 : FrameIs I88n1 AL [] := ⟨K_I88n1_40, fun i hi => absurd hi (Nat.not_lt_zero i)⟩
      refine WX.keep (y := 208) [0, 1, 2, 3, 4] (show ([0, 1, 2, 3, 4, 5] : List Nat).Nodup by decide) rfl ?_
      have t107 : ∀ (sz : Nat), sz = szN fl → WX (lk tX12_press) (mM (d + 8)) Ψ 107 [(0, .ref m), (1, .int (nI fl)), (2, .int (nI e)), (3, .int (nI cut)), (4, .int (nI sg))] [.int (nI sz)] (n, s, h88n1) := by
        intro sz esz
        refine WX.s1 (L' := [(0, .ref m), (1, .int (nI fl)), (2, .int (nI e)), (3, .int (nI cut)), (4, .int (nI sg)), (5, .int (nI sz))]) rfl rfl ?_
        have t152 : ∀ (sk : Nat), sk = skN fl (l).length → WX (lk tX12_press) (mM (d + 8)) Ψ 152 [(0, .ref m), (1, .int (nI fl)), (2, .int (nI e)), (3, .int (nI cut)), (4, .int (nI sg)), (5, .int (nI sz))] [.int (nI sk)] (n, s, h88n1) := by
          intro sk esk
          refine WX.s1 (L' := [(0, .ref m), (1, .int (nI fl)), (2, .int (nI e)), (3, .int (nI cut)), (4, .int (nI sg)), (5, .int (nI sz)), (6, .int (nI sk))]) rfl rfl ?_
          refine WX.s1 rfl rfl ?_
          refine WX.mgetK (x := (nI id)) rfl hm M_h88n1 rfl K_I88n1_8 ?_
          refine WX.s1 (S' := [.long ((nI id).toInt64)]) rfl rfl ?_
          refine WX.s1 rfl rfl ?_
          refine WX.s1 (S' := [.long (((nI id).toInt64) &&& 4294967295)]) rfl rfl ?_
          rw [id_l hid]
          refine WX.s1 (L' := [(0, .ref m), (1, .int (nI fl)), (2, .int (nI e)), (3, .int (nI cut)), (4, .int (nI sg)), (5, .int (nI sz)), (6, .int (nI sk)), (7, .long (lN id))]) rfl rfl ?_
          have t210 : ∀ (ik : Nat), ik = ikN fl id → WX (lk tX12_press) (mM (d + 8)) Ψ 210 [(0, .ref m), (1, .int (nI fl)), (2, .int (nI e)), (3, .int (nI cut)), (4, .int (nI sg)), (5, .int (nI sz)), (6, .int (nI sk)), (7, .long (lN id))] [.int (nI ik)] (n, s, h88n1) := by
            intro ik eik
            refine WX.s1 (L' := [(0, .ref m), (1, .int (nI fl)), (2, .int (nI e)), (3, .int (nI cut)), (4, .int (nI sg)), (5, .int (nI sz)), (6, .int (nI sk)), (7, .long (lN id)), (9, .int (nI ik))]) rfl rfl ?_
            refine WX.s1 rfl rfl ?_
            refine WX.s1 rfl rfl ?_
            refine WX.s1 rfl rfl ?_
            refine WX.callC (vs := [.ref m, .long (lN 4247762216), .int (nI 4)]) rfl rfl rfl (Nat.le_of_ble_eq_true rfl) ((M_h88n1).rcv hm) ?_
            refine m_sayNumL (d := d + 6) (b := 4) (v := lN 4247762216) (l := []) hm M_h88n1 hF0 (by decide) (by decide) (fun h217n2 I217n2 A217n2 fr217n2 M_h217n2 fi217n2 fa217n2 hF217n2 => ?_)
            have FR_h217n2 := (FR_h88n1).ztr fr217n2
            have K_I217n2_1 : I217n2 1 = (nI (l).length) := (fi217n2 1 (by decide)).trans K_I88n1_1
            have K_I217n2_4 : I217n2 4 = (nI way) := (fi217n2 4 (by decide)).trans K_I88n1_4
            have K_I217n2_5 : I217n2 5 = (nI least) := (fi217n2 5 (by decide)).trans K_I88n1_5
            have K_I217n2_7 : I217n2 7 = (nI (ld).length) := (fi217n2 7 (by decide)).trans K_I88n1_7
            have K_I217n2_8 : I217n2 8 = (nI id) := (fi217n2 8 (by decide)).trans K_I88n1_8
            have FI_I217n2 : Fi I I217n2 (fun f => f = 3 ∨ f = 15 ∨ 20 ≤ f) := (FI_I88n1).zsub fi217n2 (fun j hj => by first | exact hj | omega)
            have FA_A217n2 : FaS AR A217n2 (fun b => b = 2 ∨ 8 ≤ b) := (FA_AL).ztr ((fa217n2).toS (by omega))
            rw [leL_lN (by decide), List.nil_append] at hF217n2
            have hX1 : RfX I217n2 A217n2 id way least l lo ld T ab := (hX0).mv fi217n2 ((fa217n2).toS (by omega) : FaS AL A217n2 (fun b => b = 25)) (fun f h => by omega) (fun b h => by omega) (by decide) (by obtain ⟨c, w, q⟩ := hX0.2.2.2.2.2.2.2.1; exact ⟨c, w, (q).fa (fi217n2 38 (by decide)) (fa217n2 24 (by decide))⟩)
            have hN1 : NtM A217n2 (fun _ => 0) := fun q hq => by rw [fa217n2 42 (by decide)]; exact hN0 q hq
            have hF1 := hF217n2
            show WX _ _ _ 220 [(0, .ref m), (1, .int (nI fl)), (2, .int (nI e)), (3, .int (nI cut)), (4, .int (nI sg)), (5, .int (nI sz)), (6, .int (nI sk)), (7, .long (lN id)), (9, .int (nI ik))] [] (n, s, h217n2)
            refine WX.s1 rfl rfl ?_
            refine WX.s1 rfl rfl ?_
            refine WX.s1 rfl rfl ?_
            refine WX.s1 (S' := [.int (64 * (nI sk)), .ref m]) rfl rfl ?_
            rw [show (64 * (nI sk)) = nI (64 * sk) from (Int32.ofNat_mul 64 sk).symm]
            have t237 : ∀ (x : Nat), x = 32 * sg → WX (lk tX12_press) (mM (d + 8)) Ψ 237 [(0, .ref m), (1, .int (nI fl)), (2, .int (nI e)), (3, .int (nI cut)), (4, .int (nI sg)), (5, .int (nI sz)), (6, .int (nI sk)), (7, .long (lN id)), (9, .int (nI ik))] [.int (nI x), .int (nI (64 * sk)), .ref m] (n, s, h217n2) := by
              intro x ex
              refine WX.s1 (S' := [.int ((nI (64 * sk)) + (nI x)), .ref m]) rfl rfl ?_
              rw [show ((nI (64 * sk)) + (nI x)) = nI (64 * sk + x) from nI_add (64 * sk) x]
              have t249 : ∀ (y : Nat), y = 4 * (fl % 2) → WX (lk tX12_press) (mM (d + 8)) Ψ 249 [(0, .ref m), (1, .int (nI fl)), (2, .int (nI e)), (3, .int (nI cut)), (4, .int (nI sg)), (5, .int (nI sz)), (6, .int (nI sk)), (7, .long (lN id)), (9, .int (nI ik))] [.int (nI y), .int (nI (64 * sk + x)), .ref m] (n, s, h217n2) := by
                intro y ey
                refine WX.s1 (S' := [.int ((nI (64 * sk + x)) + (nI y)), .ref m]) rfl rfl ?_
                rw [show ((nI (64 * sk + x)) + (nI y)) = nI (64 * sk + x + y) from nI_add (64 * sk + x) y]
                refine WX.s1 rfl rfl ?_
                refine WX.s1 (S' := [.int ((nI (64 * sk + x + y)) + (nI ik)), .ref m]) rfl rfl ?_
                rw [show ((nI (64 * sk + x + y)) + (nI ik)) = nI (64 * sk + x + y + ik) from nI_add (64 * sk + x + y) ik]
                refine WX.callC (vs := [.ref m, .int (nI (64 * sk + x + y + ik))]) rfl rfl rfl (Nat.le_of_ble_eq_true rfl) ((M_h217n2).rcv hm) ?_
                refine m_sayL (d := d + 7) (x := 64 * sk + x + y + ik) hm M_h217n2 hF1 (by rw [leBy_len]; decide) (fun h253n3 I253n3 A253n3 fr253n3 M_h253n3 fi253n3 fa253n3 hF253n3 => ?_)
                have FR_h253n3 := (FR_h217n2).ztr fr253n3
                have K_I253n3_1 : I253n3 1 = (nI (l).length) := (fi253n3 1 (by decide)).trans K_I217n2_1
                have K_I253n3_4 : I253n3 4 = (nI way) := (fi253n3 4 (by decide)).trans K_I217n2_4
                have K_I253n3_5 : I253n3 5 = (nI least) := (fi253n3 5 (by decide)).trans K_I217n2_5
                have K_I253n3_7 : I253n3 7 = (nI (ld).length) := (fi253n3 7 (by decide)).trans K_I217n2_7
                have K_I253n3_8 : I253n3 8 = (nI id) := (fi253n3 8 (by decide)).trans K_I217n2_8
                have FI_I253n3 : Fi I I253n3 (fun f => f = 3 ∨ f = 15 ∨ 20 ≤ f) := (FI_I217n2).zsub fi253n3 (fun j hj => by first | exact hj | omega)
                have FA_A253n3 : FaS AR A253n3 (fun b => b = 2 ∨ 8 ≤ b) := (FA_A217n2).ztr ((fa253n3).toS (by omega))
                have ehd : hd1 fl id (l).length = 64 * sk + x + y + ik := by unfold hd1; omega
                rw [← ehd, Nat.mod_eq_of_lt (by omega)] at hF253n3
                have hX2 : RfX I253n3 A253n3 id way least l lo ld T ab := (hX1).mv fi253n3 ((fa253n3).toS (by omega) : FaS A217n2 A253n3 (fun b => b = 25)) (fun f h => by omega) (fun b h => by omega) (by decide) (by obtain ⟨c, w, q⟩ := hX1.2.2.2.2.2.2.2.1; exact ⟨c, w, (q).fa (fi253n3 38 (by decide)) (fa253n3 24 (by decide))⟩)
                have hN2 : NtM A253n3 (fun _ => 0) := fun q hq => by rw [fa253n3 42 (by decide)]; exact hN1 q hq
                have hF2 := hF253n3
                show WX _ _ _ 256 [(0, .ref m), (1, .int (nI fl)), (2, .int (nI e)), (3, .int (nI cut)), (4, .int (nI sg)), (5, .int (nI sz)), (6, .int (nI sk)), (7, .long (lN id)), (9, .int (nI ik))] [] (n, s, h253n3)
                refine WX.s1 rfl rfl ?_
                refine WX.if_ rfl (fun c_258 => ?_) (fun c_258 => ?_)
                · skip
                  have n_258 : ¬ sg = 0 := fun zz_ => c_258 ((nI_eq (a := sg) (b := 0) (by omega) (by omega)).mpr zz_)
                  exact m_prB (d := d) hm M_h253n3 hX2 hB hid hw hl3 hl8 hfl he hc1 hc2 hO hsg esz esk eik (by unfold hdE; rw [if_pos (by omega), List.append_nil]; exact hF2) hN2 (fun z h9 I9 A9 L9 f9 M9 q9 => k1 z h9 I9 A9 L9 ((FR_h253n3).ztr f9) M9 q9) (fun z h9 I9 A9 L9 f9 M9 q9 => k2 z h9 I9 A9 L9 ((FR_h253n3).ztr f9) M9 q9)
                · skip
                  have n_258 : sg = 0 := (nI_eq (a := sg) (b := 0) (by omega) (by omega)).mp (Classical.not_not.mp c_258)
                  refine WX.s1 rfl rfl ?_
                  refine WX.s1 rfl rfl ?_
                  refine WX.s1 rfl rfl ?_
                  refine WX.s1 (S' := [.int (8 * (nI e)), .ref m]) rfl rfl ?_
                  rw [show (8 * (nI e)) = nI (8 * e) from (Int32.ofNat_mul 8 e).symm]
                  refine WX.callC (vs := [.ref m, .int (nI (8 * e))]) rfl rfl rfl (Nat.le_of_ble_eq_true rfl) ((M_h253n3).rcv hm) ?_
                  refine m_sayL (d := d + 7) (x := 8 * e) hm M_h253n3 hF2 (by rw [List.length_append, leBy_len, List.length_singleton]; decide) (fun h266n4 I266n4 A266n4 fr266n4 M_h266n4 fi266n4 fa266n4 hF266n4 => ?_)
                  have FR_h266n4 := (FR_h253n3).ztr fr266n4
                  have K_I266n4_1 : I266n4 1 = (nI (l).length) := (fi266n4 1 (by decide)).trans K_I253n3_1
                  have K_I266n4_4 : I266n4 4 = (nI way) := (fi266n4 4 (by decide)).trans K_I253n3_4
                  have K_I266n4_5 : I266n4 5 = (nI least) := (fi266n4 5 (by decide)).trans K_I253n3_5
                  have K_I266n4_7 : I266n4 7 = (nI (ld).length) := (fi266n4 7 (by decide)).trans K_I253n3_7
                  have K_I266n4_8 : I266n4 8 = (nI id) := (fi266n4 8 (by decide)).trans K_I253n3_8
                  have FI_I266n4 : Fi I I266n4 (fun f => f = 3 ∨ f = 15 ∨ 20 ≤ f) := (FI_I253n3).zsub fi266n4 (fun j hj => by first | exact hj | omega)
                  have FA_A266n4 : FaS AR A266n4 (fun b => b = 2 ∨ 8 ≤ b) := (FA_A253n3).ztr ((fa266n4).toS (by omega))
                  rw [Nat.mod_eq_of_lt (by omega)] at hF266n4
                  have hX3 : RfX I266n4 A266n4 id way least l lo ld T ab := (hX2).mv fi266n4 ((fa266n4).toS (by omega) : FaS A253n3 A266n4 (fun b => b = 25)) (fun f h => by omega) (fun b h => by omega) (by decide) (by obtain ⟨c, w, q⟩ := hX2.2.2.2.2.2.2.2.1; exact ⟨c, w, (q).fa (fi266n4 38 (by decide)) (fa266n4 24 (by decide))⟩)
                  have hN3 : NtM A266n4 (fun _ => 0) := fun q hq => by rw [fa266n4 42 (by decide)]; exact hN2 q hq
                  have hF3 := hF266n4
                  show WX _ _ _ 269 [(0, .ref m), (1, .int (nI fl)), (2, .int (nI e)), (3, .int (nI cut)), (4, .int (nI sg)), (5, .int (nI sz)), (6, .int (nI sk)), (7, .long (lN id)), (9, .int (nI ik))] [] (n, s, h266n4)
                  exact m_prB (d := d) hm M_h266n4 hX3 hB hid hw hl3 hl8 hfl he hc1 hc2 hO hsg esz esk eik (by unfold hdE; rw [if_neg (by omega)]; rw [List.append_assoc] at hF3; exact hF3) hN3 (fun z h9 I9 A9 L9 f9 M9 q9 => k1 z h9 I9 A9 L9 ((FR_h266n4).ztr f9) M9 q9) (fun z h9 I9 A9 L9 f9 M9 q9 => k2 z h9 I9 A9 L9 ((FR_h266n4).ztr f9) M9 q9)
              refine WX.s1 rfl rfl ?_
              refine WX.s1 rfl rfl ?_
              refine WX.s1 (S' := [.int ((nI fl) &&& 1), .int (nI (64 * sk + x)), .ref m]) rfl rfl ?_
              refine WX.if_ rfl (fun c_241 => ?_) (fun c_241 => ?_)
              · skip
                refine WX.s1 rfl rfl ?_
                exact t249 0 (by have q := fl_1 fl hfl; have := (q).mp c_241; omega)
              · skip
                refine WX.s1 rfl rfl ?_
                refine WX.s1 rfl rfl ?_
                exact t249 4 (by have q := fl_1 fl hfl; have := mt (q).mpr c_241; omega)
            refine WX.s1 rfl rfl ?_
            refine WX.if_ rfl (fun c_228 => ?_) (fun c_228 => ?_)
            · skip
              have n_228 : sg = 0 := (nI_eq (a := sg) (b := 0) (by omega) (by omega)).mp c_228
              refine WX.s1 rfl rfl ?_
              exact t237 0 (by omega)
            · skip
              have n_228 : ¬ sg = 0 := fun zz_ => c_228 ((nI_eq (a := sg) (b := 0) (by omega) (by omega)).mpr zz_)
              refine WX.s1 rfl rfl ?_
              refine WX.s1 rfl rfl ?_
              exact t237 32 (by omega)
          refine WX.s1 rfl rfl ?_
          refine WX.s1 rfl rfl ?_
          refine WX.s1 (S' := [.int ((nI fl) &&& 8)]) rfl rfl ?_
          refine WX.if_ rfl (fun c_169 => ?_) (fun c_169 => ?_)
          · skip
            refine WX.s1 rfl rfl ?_
            refine WX.s1 rfl rfl ?_
            exact t210 0 (by unfold ikN; rw [if_neg (by have q := fl_8 fl hfl; have := (q).mp c_169; omega)])
          · skip
            refine WX.s1 rfl rfl ?_
            refine WX.s1 rfl rfl ?_
            refine WX.s1 (S' := [.int (lg_cmp (lN id) 0)]) rfl rfl ?_
            refine WX.if_ rfl (fun c_176 => ?_) (fun c_176 => ?_)
            · skip
              refine WX.s1 rfl rfl ?_
              refine WX.s1 rfl rfl ?_
              refine WX.s1 (S' := [.int (lg_cmp (lN id) 256)]) rfl rfl ?_
              refine WX.if_ rfl (fun c_189 => ?_) (fun c_189 => ?_)
              · skip
                refine WX.s1 rfl rfl ?_
                refine WX.s1 rfl rfl ?_
                refine WX.s1 (S' := [.int (lg_cmp (lN id) 65536)]) rfl rfl ?_
                refine WX.if_ rfl (fun c_202 => ?_) (fun c_202 => ?_)
                · skip
                  refine WX.s1 rfl rfl ?_
                  exact t210 3 (by have q0 := lcN_eq (a := id) (b := 0) (by omega) (by decide); have q1 := lcN_ge (a := id) (b := 256) (by omega) (by decide); have q2 := lcN_ge (a := id) (b := 65536) (by omega) (by decide); unfold ikN ikV; rw [if_pos (by have q := fl_8 fl hfl; have := mt (q).mpr c_169; omega)]; rw [if_neg (mt (q0).mpr c_176), if_neg (by have := (q1).mp c_189; omega), if_neg (by have := (q2).mp c_202; omega)])
                · skip
                  refine WX.s1 rfl rfl ?_
                  refine WX.s1 rfl rfl ?_
                  exact t210 2 (by have q0 := lcN_eq (a := id) (b := 0) (by omega) (by decide); have q1 := lcN_ge (a := id) (b := 256) (by omega) (by decide); have q2 := lcN_ge (a := id) (b := 65536) (by omega) (by decide); unfold ikN ikV; rw [if_pos (by have q := fl_8 fl hfl; have := mt (q).mpr c_169; omega)]; rw [if_neg (mt (q0).mpr c_176), if_neg (by have := (q1).mp c_189; omega), if_pos (by have := mt (q2).mpr c_202; omega)])
              · skip
                refine WX.s1 rfl rfl ?_
                refine WX.s1 rfl rfl ?_
                exact t210 1 (by have q0 := lcN_eq (a := id) (b := 0) (by omega) (by decide); have q1 := lcN_ge (a := id) (b := 256) (by omega) (by decide); have q2 := lcN_ge (a := id) (b := 65536) (by omega) (by decide); unfold ikN ikV; rw [if_pos (by have q := fl_8 fl hfl; have := mt (q).mpr c_169; omega)]; rw [if_neg (mt (q0).mpr c_176), if_pos (by have := mt (q1).mpr c_189; omega)])
            · skip
              refine WX.s1 rfl rfl ?_
              refine WX.s1 rfl rfl ?_
              exact t210 0 (by have q0 := lcN_eq (a := id) (b := 0) (by omega) (by decide); have q1 := lcN_ge (a := id) (b := 256) (by omega) (by decide); have q2 := lcN_ge (a := id) (b := 65536) (by omega) (by decide); unfold ikN ikV; rw [if_pos (by have q := fl_8 fl hfl; have := mt (q).mpr c_169; omega)]; rw [if_pos ((q0).mp (Classical.not_not.mp c_176))])
        refine WX.s1 rfl rfl ?_
        refine WX.if_ rfl (fun c_111 => ?_) (fun c_111 => ?_)
        · skip
          have n_111 : ¬ sz = 0 := fun zz_ => c_111 ((nI_eq (a := sz) (b := 0) (by omega) (by omega)).mpr zz_)
          refine WX.s1 rfl rfl ?_
          refine WX.if_ rfl (fun c_120 => ?_) (fun c_120 => ?_)
          · skip
            have n_120 : sg = 0 := (nI_eq (a := sg) (b := 0) (by omega) (by omega)).mp c_120
            refine WX.s1 rfl rfl ?_
            refine WX.mgetK (x := (nI (l).length)) rfl hm M_h88n1 rfl K_I88n1_1 ?_
            refine WX.s1 rfl rfl ?_
            refine WX.icmp rfl (fun c_144 => ?_) (fun c_144 => ?_)
            · skip
              have n_144 : 256 ≤ (l).length := (nI_leI (a := 256) (b := (l).length) (by omega) (by omega)).mp c_144
              refine WX.s1 rfl rfl ?_
              exact t152 1 (by unfold skN skV; rw [if_neg (by omega), if_neg (by omega)])
            · skip
              have n_144 : (l).length < 256 := Nat.lt_of_not_le (fun zz_ => c_144 ((nI_leI (a := 256) (b := (l).length) (by omega) (by omega)).mpr zz_))
              refine WX.s1 rfl rfl ?_
              refine WX.s1 rfl rfl ?_
              exact t152 2 (by unfold skN skV; rw [if_neg (by omega), if_pos (by omega), if_pos (by omega)])
          · skip
            have n_120 : ¬ sg = 0 := fun zz_ => c_120 ((nI_eq (a := sg) (b := 0) (by omega) (by omega)).mpr zz_)
            refine WX.s1 rfl rfl ?_
            refine WX.mgetK (x := (nI (l).length)) rfl hm M_h88n1 rfl K_I88n1_1 ?_
            refine WX.s1 rfl rfl ?_
            refine WX.icmp rfl (fun c_130 => ?_) (fun c_130 => ?_)
            · skip
              have n_130 : 256 ≤ (l).length := (nI_leI (a := 256) (b := (l).length) (by omega) (by omega)).mp c_130
              refine WX.s1 rfl rfl ?_
              refine WX.mgetK (x := (nI (l).length)) rfl hm M_h88n1 rfl K_I88n1_1 ?_
              refine WX.s1 rfl rfl ?_
              refine WX.icmp rfl (fun c_144 => ?_) (fun c_144 => ?_)
              · skip
                have n_144 : 256 ≤ (l).length := (nI_leI (a := 256) (b := (l).length) (by omega) (by omega)).mp c_144
                refine WX.s1 rfl rfl ?_
                exact t152 1 (by unfold skN skV; rw [if_neg (by omega), if_neg (by omega)])
              · skip
                have n_144 : (l).length < 256 := Nat.lt_of_not_le (fun zz_ => c_144 ((nI_leI (a := 256) (b := (l).length) (by omega) (by omega)).mpr zz_))
                refine WX.s1 rfl rfl ?_
                refine WX.s1 rfl rfl ?_
                exact t152 2 (by unfold skN skV; rw [if_neg (by omega), if_pos (by omega), if_pos (by omega)])
            · skip
              have n_130 : (l).length < 256 := Nat.lt_of_not_le (fun zz_ => c_130 ((nI_leI (a := 256) (b := (l).length) (by omega) (by omega)).mpr zz_))
              refine WX.s1 rfl rfl ?_
              refine WX.s1 rfl rfl ?_
              exact t152 0 (by unfold skN skV; rw [if_neg (by omega), if_pos (by omega), if_neg (by omega)])
        · skip
          have n_111 : sz = 0 := (nI_eq (a := sz) (b := 0) (by omega) (by omega)).mp (Classical.not_not.mp c_111)
          refine WX.s1 rfl rfl ?_
          refine WX.s1 rfl rfl ?_
          exact t152 0 (by unfold skN; rw [if_pos (by omega)])
      refine WX.s1 rfl rfl ?_
      refine WX.if_ rfl (fun c_93 => ?_) (fun c_93 => ?_)
      · skip
        have n_93 : ¬ sg = 0 := fun zz_ => c_93 ((nI_eq (a := sg) (b := 0) (by omega) (by omega)).mpr zz_)
        refine WX.s1 rfl rfl ?_
        refine WX.s1 rfl rfl ?_
        exact t107 1 (by unfold szN; rw [if_pos (by omega)])
      · skip
        have n_93 : sg = 0 := (nI_eq (a := sg) (b := 0) (by omega) (by omega)).mp (Classical.not_not.mp c_93)
        refine WX.s1 rfl rfl ?_
        refine WX.s1 rfl rfl ?_
        refine WX.s1 (S' := [.int ((nI fl) &&& 2)]) rfl rfl ?_
        refine WX.if_ rfl (fun c_99 => ?_) (fun c_99 => ?_)
        · skip
          refine WX.s1 rfl rfl ?_
          exact t107 0 (by unfold szN; rw [if_neg (by omega)]; have q := fl_2 fl hfl; have := (q).mp c_99; omega)
        · skip
          refine WX.s1 rfl rfl ?_
          refine WX.s1 rfl rfl ?_
          exact t107 1 (by unfold szN; rw [if_neg (by omega)]; have q := fl_2 fl hfl; have := mt (q).mpr c_99; omega)
    | succ t ih =>
      intro i hL AL ht FR_hL M_hL faL hq
      refine WX.s1 rfl rfl ?_
      refine WX.s1 rfl rfl ?_
      refine WX.icmp rfl (fun c_69 => absurd c_69 (fun zz_ => absurd ((nI_leI (a := 12) (b := i) (by omega) (by omega)).mp zz_) (Nat.not_le.mpr (by omega)))) (fun c_69 => ?_)
      clear c_69
      refine WX.s1 rfl rfl ?_
      refine WX.mget rfl hm M_hL rfl ?_
      refine WX.s1 rfl rfl ?_
      refine WX.s1 rfl rfl ?_
      refine WX.mast (c := 42) rfl hm M_hL (by decide) (by decide) (by decide) (by decide) (vp_in_nI (N := 12) (by omega) (by decide)) (fun h79n5 A79n5 e_A79n5 M_h79n5 frh79n5 => ?_)
      try dsimp only at e_A79n5
      have FR_h79n5 := (FR_hL).ztr frh79n5
      clear M_hL FR_hL frh79n5
      refine WX.s1 (L' := [(0, .ref m), (1, .int (nI fl)), (2, .int (nI e)), (3, .int (nI cut)), (4, .int (nI sg)), (5, .int ((nI i) + 1))]) rfl rfl ?_
      rw [show ((nI i) + 1) = nI (i + 1) from nI_add i 1]
      refine WX.s1 rfl rfl ?_
      rw [nI_clamp (by omega)] at e_A79n5
      refine ih (i + 1) h79n5 A79n5 (by omega) FR_h79n5 M_h79n5 ((faL).ast e_A79n5 rfl) (fun q h => ?_)
      by_cases z : q = i
      · rw [z, e_A79n5, upA_same, pk_us]
      · rw [e_A79n5, upA_same, pk_un z]; exact hq q (by omega)
  exact lp 12 0 h AR (by omega) FR_h M_h FaS.rf (fun q h => absurd h (by omega))
set_option maxRecDepth 20000 in
theorem m_pressL {d n s : Nat} {h : Nat → aE} {m : Nat} {I : Nat → Int32} {AR : Nat → Nat → Int32} {LN : Nat → Int64} {id way least : Nat} {l lo ld : List Nat} {T : PkS} {ab : Nat → Nat} {fl e cut : Int32} (hm : m + 43 < n) (M_h : MAt h m I AR LN) (hX : RfX I AR id way least l lo ld T ab) (hB : RfB l lo ld) (hid : id < 2 ^ 32) (hw : way ≤ 3) (hl3 : 3 ≤ least) (hl8 : least ≤ 8) (hO : PkOk T)  {Ψ : Option Value → aH → Prop} (k0 : prBd fl e cut → Ψ (some (.int (-1))) (n, s, h)) (k1 : ∀ fN eN cN h' I' A' L', ¬ prBd fl e cut → PrN fl e cut fN eN cN → 12000 < (prY fN eN cN id way least ld l T).length → Fr h h' (inM m) → MAt h' m I' A' L' → RfX I' A' id way least l lo ld T ab → Ψ (some (.int (-1))) (n, s, h')) (k2 : ∀ fN eN cN h' I' A' L', ¬ prBd fl e cut → PrN fl e cut fN eN cN → (prY fN eN cN id way least ld l T).length ≤ 12000 → Fr h h' (inM m) → MAt h' m I' A' L' → RfX I' A' id way least l (prY fN eN cN id way least ld l T) ld T (prS fN eN cN way least ld l T).2.2.2.2.2.2 → Ψ (some (.int (nI (prY fN eN cN id way least ld l T).length))) (n, s, h')) : WO (mM (d + 9)) 208 [.ref m, .int fl, .int e, .int cut] (n, s, h) Ψ := by
  refine WO.of (Nat.le_of_ble_eq_true rfl) ?_
  have FR_h : Fr h h (inM m) := Fr.rf
  have FI_I : Fi I I (fun f => f = 40) := Fi.rf
  show WX (lk tX12_press) (mM (d + 8)) Ψ 0 [(0, .ref m), (1, .int fl), (2, .int e), (3, .int cut)] [] (n, s, h)
  have t11 : ∀ sg : Int32, (sg = 0 ∧ fl &&& 4 = 0) ∨ (sg = 1 ∧ ¬ fl &&& 4 = 0) → WX (lk tX12_press) (mM (d + 8)) Ψ 11 [(0, .ref m), (1, .int fl), (2, .int e), (3, .int cut)] [.int sg] (n, s, h) := by
    intro sg hsg
    refine WX.s1 (L' := [(0, .ref m), (1, .int fl), (2, .int e), (3, .int cut), (4, .int sg)]) rfl rfl ?_
    refine WX.s1 rfl rfl ?_
    refine WX.if_ rfl (fun c_14 => ?_) (fun c_14 => ?_)
    · skip
      refine WX.s1 rfl rfl ?_
      exact WX.ret1 rfl (k0 (Or.inl c_14))
    · skip
      refine WX.s1 rfl rfl ?_
      refine WX.s1 rfl rfl ?_
      refine WX.icmp rfl (fun c_20 => ?_) (fun c_20 => ?_)
      · skip
        refine WX.s1 rfl rfl ?_
        exact WX.ret1 rfl (k0 (Or.inr (Or.inl c_20)))
      · skip
        refine WX.s1 rfl rfl ?_
        refine WX.if_ rfl (fun c_24 => ?_) (fun c_24 => ?_)
        · skip
          refine WX.s1 rfl rfl ?_
          exact WX.ret1 rfl (k0 (Or.inr (Or.inr (Or.inl c_24))))
        · skip
          refine WX.s1 rfl rfl ?_
          refine WX.s1 rfl rfl ?_
          refine WX.icmp rfl (fun c_30 => ?_) (fun c_30 => ?_)
          · skip
            refine WX.s1 rfl rfl ?_
            exact WX.ret1 rfl (k0 (Or.inr (Or.inr (Or.inr (Or.inl c_30)))))
          · skip
            refine WX.s1 rfl rfl ?_
            refine WX.s1 rfl rfl ?_
            refine WX.icmp rfl (fun c_35 => ?_) (fun c_35 => ?_)
            · skip
              refine WX.s1 rfl rfl ?_
              exact WX.ret1 rfl (k0 (Or.inr (Or.inr (Or.inr (Or.inr (Or.inl c_35))))))
            · skip
              refine WX.s1 rfl rfl ?_
              refine WX.s1 rfl rfl ?_
              refine WX.icmp rfl (fun c_42 => ?_) (fun c_42 => ?_)
              · skip
                refine WX.s1 rfl rfl ?_
                exact WX.ret1 rfl (k0 (Or.inr (Or.inr (Or.inr (Or.inr (Or.inr (Or.inl c_42)))))))
              · skip
                refine WX.s1 rfl rfl ?_
                refine WX.if_ rfl (fun c_47 => ?_) (fun c_47 => ?_)
                · skip
                  have hbad : ¬ (fl &&& 4 = 0 ∧ ¬ cut ≤ (1 : Int32) <<< ((10 + e) &&& 31)) := fun z => by
                    rcases hsg with q | q
                    · exact c_47 q.1
                    · exact q.2 z.1
                  have es : sg = 1 := by
                    rcases hsg with q | q
                    · exact absurd q.1 c_47
                    · exact q.1
                  have ef : ¬ fl &&& 4 = 0 := by
                    rcases hsg with q | q
                    · exact absurd q.1 c_47
                    · exact q.2
                  have esg : ∀ fN, fl = nI fN → fN < 16 → sg = nI (sgN fN) := fun fN q hq => by
                    have z := fl_4 fN hq
                    rw [← q] at z
                    rw [es]
                    have : sgN fN = 1 := by unfold sgN; have := mt (z).mpr ef; omega
                    rw [this]; rfl
                  have hnB : ¬ prBd fl e cut := by
                    rintro (z | z | z | z | z | z | z)
                    · exact c_14 z
                    · exact c_20 z
                    · exact c_24 z
                    · exact c_30 z
                    · exact c_35 z
                    · exact c_42 z
                    · exact hbad z
                  obtain ⟨fN, eN, cN, hPN⟩ := pr_nat c_14 c_20 c_24 c_30 c_35 (Int32.not_lt.mp c_42)
                  rw [esg fN hPN.1 hPN.2.2.2.1]
                  clear esg es ef hbad
                  obtain ⟨rfl, rfl, rfl, p1, p2, p3, p4⟩ := idP hPN
                  exact m_prA (d := d) (sg := sgN fN) hm M_h hX hB hid hw hl3 hl8 p1 p2 p3 p4 hO rfl (fun z h9 I9 A9 L9 f9 M9 q9 => k1 _ _ _ h9 I9 A9 L9 hnB hPN z f9 M9 q9) (fun z h9 I9 A9 L9 f9 M9 q9 => k2 _ _ _ h9 I9 A9 L9 hnB hPN z f9 M9 q9)
                · skip
                  refine WX.s1 rfl rfl ?_
                  refine WX.s1 rfl rfl ?_
                  refine WX.s1 rfl rfl ?_
                  refine WX.s1 rfl rfl ?_
                  refine WX.s1 (S' := [.int (10 + e), .int 1, .int cut]) rfl rfl ?_
                  refine WX.s1 (S' := [.int (1 <<< ((10 + e) &&& 31)), .int cut]) rfl rfl ?_
                  refine WX.icmp rfl (fun c_57 => ?_) (fun c_57 => ?_)
                  · skip
                    have hbad : ¬ (fl &&& 4 = 0 ∧ ¬ cut ≤ (1 : Int32) <<< ((10 + e) &&& 31)) := fun z => z.2 c_57
                    have es : sg = 0 := Classical.not_not.mp c_47
                    have ef : fl &&& 4 = 0 := by
                      rcases hsg with q | q
                      · exact q.2
                      · exact absurd es (by rw [q.1]; decide)
                    have esg : ∀ fN, fl = nI fN → fN < 16 → sg = nI (sgN fN) := fun fN q hq => by
                      have z := fl_4 fN hq
                      rw [← q] at z
                      rw [es]
                      have : sgN fN = 0 := by unfold sgN; exact (z).mp ef
                      rw [this]; rfl
                    have hnB : ¬ prBd fl e cut := by
                      rintro (z | z | z | z | z | z | z)
                      · exact c_14 z
                      · exact c_20 z
                      · exact c_24 z
                      · exact c_30 z
                      · exact c_35 z
                      · exact c_42 z
                      · exact hbad z
                    obtain ⟨fN, eN, cN, hPN⟩ := pr_nat c_14 c_20 c_24 c_30 c_35 (Int32.not_lt.mp c_42)
                    rw [esg fN hPN.1 hPN.2.2.2.1]
                    clear esg es ef hbad
                    obtain ⟨rfl, rfl, rfl, p1, p2, p3, p4⟩ := idP hPN
                    exact m_prA (d := d) (sg := sgN fN) hm M_h hX hB hid hw hl3 hl8 p1 p2 p3 p4 hO rfl (fun z h9 I9 A9 L9 f9 M9 q9 => k1 _ _ _ h9 I9 A9 L9 hnB hPN z f9 M9 q9) (fun z h9 I9 A9 L9 f9 M9 q9 => k2 _ _ _ h9 I9 A9 L9 hnB hPN z f9 M9 q9)
                  · skip
                    refine WX.s1 rfl rfl ?_
                    refine WX.ret1 rfl (k0 (Or.inr (Or.inr (Or.inr (Or.inr (Or.inr (Or.inr ⟨?_, c_57⟩)))))))
                    rcases hsg with q | q
                    · exact q.2
                    · exact absurd (Classical.not_not.mp c_47) (by rw [q.1]; decide)
  refine WX.s1 rfl rfl ?_
  refine WX.s1 rfl rfl ?_
  refine WX.s1 (S' := [.int (fl &&& 4)]) rfl rfl ?_
  refine WX.if_ rfl (fun c_3 => ?_) (fun c_3 => ?_)
  · skip
    refine WX.s1 rfl rfl ?_
    exact t11 0 (Or.inl ⟨rfl, c_3⟩)
  · skip
    refine WX.s1 rfl rfl ?_
    refine WX.s1 rfl rfl ?_
    exact t11 1 (Or.inr ⟨rfl, c_3⟩)
