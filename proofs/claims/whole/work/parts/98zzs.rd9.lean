/-! Start: read, emptied; the class learns and forgets -/
theorem CoN.toX2 {h : Nat → aE} {k : Nat} (r : CoN h k) : CoX h k := by
  obtain ⟨tp, a, b, c, d⟩ := r
  exact ⟨_, _, a, b, c, d⟩
theorem ShT.toX2 {h : Nat → aE} {k l M o : Nat} {u : Nat → Nat} (r : ShT h k l M o u) : ShX h k l M := by
  obtain ⟨a, b, c, d, e, f, g, -⟩ := r
  exact ⟨_, _, a, b, c, d, e, f, g⟩
set_option maxRecDepth 20000 in
theorem x_rdT0 {d n s : Nat} {h : Nat → aE} {q : Nat} {l : List Nat} {tA : Nat → Int32} (hn : 190 ≤ n) (hq3 : 3 ≤ q) (hq : q + 28 < 67) (F_h_q : h q = .inr (9, [.ref (q + 1), .ref (q + 3), .ref (q + 7), .ref (q + 14), .ref (q + 21), .ref (q + 28)])) (F_h_1 : h 1 = .inr (7, [.ref 2, .int (nI (l).length), .int 0, .long 0, .int 0])) (F_h__q_28_ : h (q + 28) = .inl (1, 3, .inl tA)) (P_h_in : RowIs h 1 8000 (some l) 0 0) (P_h_no : RowIs h (q + 1) 0 (some []) 0 0) (P_h_dx : DX h) (P_h_co : CoX h (q + 3)) (P_h_s1 : ShX h (q + 7) 35 512) (P_h_s2 : ShX h (q + 14) 31 256) (P_h_s3 : ShX h (q + 21) 52 512) {Ψ : Option Value → aH → Prop} (k0 : ∀ k v, RdT l (.inl k) → v = -nI k → 1 ≤ k → k ≤ 4 → ∀ h', Fr h h' (fun j => (q + 3 ≤ j ∧ j ≤ q + 28) ∨ (67 ≤ j ∧ j ≤ 80)) → StZ h' q → DX h' → Ψ (some (.int v)) (n, s, h')) (k1 : ∀ T a, RdT l (.inr (T, a)) → ∀ h', Fr h h' (fun j => (q + 3 ≤ j ∧ j ≤ q + 28) ∨ (67 ≤ j ∧ j ≤ 80)) → StX h' q T → DX h' → Ψ (some (.int (nI a))) (n, s, h')) : WO (mM (d + 7)) 118 [.ref q, .ref 1, .ref 67] (n, s, h) Ψ := by
  refine WO.of (Nat.le_of_ble_eq_true rfl) ?_
  have FR_h : Fr h h (fun j => (q + 3 ≤ j ∧ j ≤ q + 28) ∨ (67 ≤ j ∧ j ≤ 80)) := Fr.rf
  have hle := row_le P_h_in
  have hlt := row_lt P_h_in
  show WX (lk tX9_readFrom) (mM (d + 6)) Ψ 0 [(0, .ref q), (1, .ref 1), (2, .ref 67)] [] (n, s, h)
  refine WX.s1 rfl rfl ?_
  refine WX.get1 (fs := [.ref 2, .int (nI (l).length), .int 0, .long 0, .int 0]) rfl (by omega) (F_h_1) rfl ?_
  refine WX.s1 rfl rfl ?_
  refine WX.icmp rfl (fun c_6 => ?_) (fun c_6 => ?_)
  · skip
    have n_6 : 8 ≤ (l).length := (nI_leI (a := 8) (b := (l).length) (by omega) (by omega)).mp c_6
    refine WX.s1 rfl rfl ?_
    refine WX.s1 rfl rfl ?_
    refine WX.s1 rfl rfl ?_
    refine WX.s1 rfl rfl ?_
    refine WX.get1 (fs := [.ref (q + 1), .ref (q + 3), .ref (q + 7), .ref (q + 14), .ref (q + 21), .ref (q + 28)]) rfl (by omega) (F_h_q) rfl ?_
    have hrc : rcv 3 [.ref 67, .ref 1, .int 8, .ref (q + 3)] (n, s, h) = true := by
      obtain ⟨_, _, _, _, _, z, -⟩ := P_h_dx
      exact rcv_ok (by omega) z
    refine WX.callC (vs := [.ref 67, .ref 1, .int (nI 8), .ref (q + 3)]) rfl rfl rfl (Nat.le_of_ble_eq_true rfl) hrc ?_
    refine x_rdDc (d := d) (c := q + 3) (f := 8) hn (by omega) (by omega) (by decide) P_h_dx P_h_co P_h_in (fun zc ha fa P_ha_dx C9 => ?_) (fun x e zc ha fa P_ha_dx C9 => ?_)
    · skip
      have F_ha_q : ha q = .inr (9, [.ref (q + 1), .ref (q + 3), .ref (q + 7), .ref (q + 14), .ref (q + 21), .ref (q + 28)]) := (fa _ (by omega)).trans F_h_q
      have F_ha_1 : ha 1 = .inr (7, [.ref 2, .int (nI (l).length), .int 0, .long 0, .int 0]) := (fa _ (by omega)).trans F_h_1
      have F_ha__q_28_ : ha (q + 28) = .inl (1, 3, .inl tA) := (fa _ (by omega)).trans F_h__q_28_
      have P_ha_in : RowIs ha 1 8000 (some l) 0 0 := (P_h_in).zfr fa (by omega) (by omega)
      have P_ha_no : RowIs ha (q + 1) 0 (some []) 0 0 := (P_h_no).zfr fa (by omega) (by omega)
      have P_ha_s1 : ShX ha (q + 7) 35 512 := (P_h_s1).zfr fa (fun j h1 h2 => by omega)
      have P_ha_s2 : ShX ha (q + 14) 31 256 := (P_h_s2).zfr fa (fun j h1 h2 => by omega)
      have P_ha_s3 : ShX ha (q + 21) 52 512 := (P_h_s3).zfr fa (fun j h1 h2 => by omega)
      have FR_ha : Fr h ha (fun j => (q + 3 ≤ j ∧ j ≤ q + 28) ∨ (67 ≤ j ∧ j ≤ 80)) := (FR_h).ztr ((fa).mono (fun j hj => by omega))
      have P_ha_co : CoX ha (q + 3) := C9.toX2
      show WX _ _ _ 22 [(0, .ref q), (1, .ref 1), (2, .ref 67)] [.int (-1)] (n, s, ha)
      refine WX.s1 (L' := [(0, .ref q), (1, .ref 1), (2, .ref 67), (3, .int (-1))]) rfl rfl ?_
      refine WX.s1 rfl rfl ?_
      refine WX.if_ rfl (fun c_24 => absurd c_24 (by decide)) (fun c_24 => ?_)
      clear c_24
      refine WX.s1 rfl rfl ?_
      exact WX.ret1 rfl (k0 2 _ (Or.inr (Or.inl ⟨rfl, by omega, zc⟩)) (by decide) (by decide) (by decide) ha FR_ha ⟨F_ha_q, P_ha_no, P_ha_co, P_ha_s1, P_ha_s2, P_ha_s3, _, F_ha__q_28_⟩ P_ha_dx)
    · skip
      have F_ha_q : ha q = .inr (9, [.ref (q + 1), .ref (q + 3), .ref (q + 7), .ref (q + 14), .ref (q + 21), .ref (q + 28)]) := (fa _ (by omega)).trans F_h_q
      have F_ha_1 : ha 1 = .inr (7, [.ref 2, .int (nI (l).length), .int 0, .long 0, .int 0]) := (fa _ (by omega)).trans F_h_1
      have F_ha__q_28_ : ha (q + 28) = .inl (1, 3, .inl tA) := (fa _ (by omega)).trans F_h__q_28_
      have P_ha_in : RowIs ha 1 8000 (some l) 0 0 := (P_h_in).zfr fa (by omega) (by omega)
      have P_ha_no : RowIs ha (q + 1) 0 (some []) 0 0 := (P_h_no).zfr fa (by omega) (by omega)
      have P_ha_s1 : ShX ha (q + 7) 35 512 := (P_h_s1).zfr fa (fun j h1 h2 => by omega)
      have P_ha_s2 : ShX ha (q + 14) 31 256 := (P_h_s2).zfr fa (fun j h1 h2 => by omega)
      have P_ha_s3 : ShX ha (q + 21) 52 512 := (P_h_s3).zfr fa (fun j h1 h2 => by omega)
      have FR_ha : Fr h ha (fun j => (q + 3 ≤ j ∧ j ≤ q + 28) ∨ (67 ≤ j ∧ j ≤ 80)) := (FR_h).ztr ((fa).mono (fun j hj => by omega))
      have P_ha_co : CoX ha (q + 3) := C9.toX
      have r0 : Rd0 l x e := ⟨by omega, zc⟩
      obtain ⟨-, -, be1, be2⟩ := rdC_ok zc
      have C9_ha := C9
      show WX _ _ _ 22 [(0, .ref q), (1, .ref 1), (2, .ref 67)] [.int (nI e)] (n, s, ha)
      refine WX.s1 (L' := [(0, .ref q), (1, .ref 1), (2, .ref 67), (3, .int (nI e))]) rfl rfl ?_
      refine WX.s1 rfl rfl ?_
      refine WX.if_ rfl (fun c_24 => ?_) (fun c_24 => absurd ((nI_leI (a := 0) (b := e) (by omega) (by omega)).mpr (by omega)) c_24)
      clear c_24
      refine WX.s1 rfl rfl ?_
      refine WX.get1 (fs := [.ref (q + 1), .ref (q + 3), .ref (q + 7), .ref (q + 14), .ref (q + 21), .ref (q + 28)]) rfl (by omega) (F_ha_q) rfl ?_
      refine WX.s1 rfl rfl ?_
      refine WX.s1 rfl rfl ?_
      refine WX.s1 rfl rfl ?_
      refine WX.get1 (fs := [.ref 2, .int (nI (l).length), .int 0, .long 0, .int 0]) rfl (by omega) (F_ha_1) rfl ?_
      refine WX.s1 rfl rfl ?_
      refine WX.callC (vs := [.ref (q + 14), .ref 1, .int (nI e), .int (nI (l).length), .int (nI 8)]) rfl rfl rfl (Nat.le_of_ble_eq_true rfl) ((P_ha_s2).rcv (by omega)) ?_
      refine x_rdF (d := d + 2) (k := q + 14) (la := 31) (M := 256) (G := 8) hn (by omega) (by omega) (by decide) (by decide) (by decide) (by decide) (by omega) hle P_ha_s2 P_ha_in (fun z2 hb fb S2 => ?_) (fun o2 u2 c2 z2 hb fb S2 => ?_)
      · skip
        have F_hb_q : hb q = .inr (9, [.ref (q + 1), .ref (q + 3), .ref (q + 7), .ref (q + 14), .ref (q + 21), .ref (q + 28)]) := (fb _ (by omega)).trans F_ha_q
        have F_hb_1 : hb 1 = .inr (7, [.ref 2, .int (nI (l).length), .int 0, .long 0, .int 0]) := (fb _ (by omega)).trans F_ha_1
        have F_hb__q_28_ : hb (q + 28) = .inl (1, 3, .inl tA) := (fb _ (by omega)).trans F_ha__q_28_
        have P_hb_in : RowIs hb 1 8000 (some l) 0 0 := (P_ha_in).zfr fb (by omega) (by omega)
        have P_hb_no : RowIs hb (q + 1) 0 (some []) 0 0 := (P_ha_no).zfr fb (by omega) (by omega)
        have P_hb_dx : DX hb := (P_ha_dx).zfr fb (fun j h1 h2 => by omega)
        have P_hb_co : CoX hb (q + 3) := (P_ha_co).zfr fb (fun j h1 h2 => by omega)
        have P_hb_s1 : ShX hb (q + 7) 35 512 := (P_ha_s1).zfr fb (fun j h1 h2 => by omega)
        have P_hb_s3 : ShX hb (q + 21) 52 512 := (P_ha_s3).zfr fb (fun j h1 h2 => by omega)
        have FR_hb : Fr h hb (fun j => (q + 3 ≤ j ∧ j ≤ q + 28) ∨ (67 ≤ j ∧ j ≤ 80)) := (FR_ha).ztr ((fb).mono (fun j hj => by omega))
        have P_hb_s2 : ShX hb (q + 14) 31 256 := S2.toX
        have C9_hb : CoT hb (q + 3) x.1 x.2 := C9_ha.zfr fb (fun j h1 h2 => by omega)
        show WX _ _ _ 45 [(0, .ref q), (1, .ref 1), (2, .ref 67), (3, .int (nI e))] [.int (-1)] (n, s, hb)
        refine WX.s1 (L' := [(0, .ref q), (1, .ref 1), (2, .ref 67), (3, .int (-1))]) rfl rfl ?_
        refine WX.s1 rfl rfl ?_
        refine WX.if_ rfl (fun c_47 => absurd c_47 (by decide)) (fun c_47 => ?_)
        clear c_47
        refine WX.s1 rfl rfl ?_
        refine WX.s1 rfl rfl ?_
        refine WX.s1 (L' := [(0, .ref q), (1, .ref 1), (2, .ref 67), (3, .int (-1))]) rfl rfl ?_
        refine WX.s1 rfl rfl ?_
        refine WX.if_ rfl (fun c_71 => absurd c_71 (by decide)) (fun c_71 => ?_)
        clear c_71
        refine WX.s1 rfl rfl ?_
        refine WX.s1 rfl rfl ?_
        refine WX.s1 (L' := [(0, .ref q), (1, .ref 1), (2, .ref 67), (3, .int (-1))]) rfl rfl ?_
        refine WX.s1 rfl rfl ?_
        refine WX.if_ rfl (fun c_95 => absurd c_95 (by decide)) (fun c_95 => ?_)
        clear c_95
        refine WX.s1 rfl rfl ?_
        exact WX.ret1 rfl (k0 3 _ (Or.inr (Or.inr (Or.inl ⟨rfl, Or.inl ⟨x, e, r0, z2⟩⟩))) (by decide) (by decide) (by decide) hb FR_hb ⟨F_hb_q, P_hb_no, P_hb_co, P_hb_s1, P_hb_s2, P_hb_s3, _, F_hb__q_28_⟩ P_hb_dx)
      · skip
        have F_hb_q : hb q = .inr (9, [.ref (q + 1), .ref (q + 3), .ref (q + 7), .ref (q + 14), .ref (q + 21), .ref (q + 28)]) := (fb _ (by omega)).trans F_ha_q
        have F_hb_1 : hb 1 = .inr (7, [.ref 2, .int (nI (l).length), .int 0, .long 0, .int 0]) := (fb _ (by omega)).trans F_ha_1
        have F_hb__q_28_ : hb (q + 28) = .inl (1, 3, .inl tA) := (fb _ (by omega)).trans F_ha__q_28_
        have P_hb_in : RowIs hb 1 8000 (some l) 0 0 := (P_ha_in).zfr fb (by omega) (by omega)
        have P_hb_no : RowIs hb (q + 1) 0 (some []) 0 0 := (P_ha_no).zfr fb (by omega) (by omega)
        have P_hb_dx : DX hb := (P_ha_dx).zfr fb (fun j h1 h2 => by omega)
        have P_hb_co : CoX hb (q + 3) := (P_ha_co).zfr fb (fun j h1 h2 => by omega)
        have P_hb_s1 : ShX hb (q + 7) 35 512 := (P_ha_s1).zfr fb (fun j h1 h2 => by omega)
        have P_hb_s3 : ShX hb (q + 21) 52 512 := (P_ha_s3).zfr fb (fun j h1 h2 => by omega)
        have FR_hb : Fr h hb (fun j => (q + 3 ≤ j ∧ j ≤ q + 28) ∨ (67 ≤ j ∧ j ≤ 80)) := (FR_ha).ztr ((fb).mono (fun j hj => by omega))
        have P_hb_s2 : ShX hb (q + 14) 31 256 := S2.toX2
        have C9_hb : CoT hb (q + 3) x.1 x.2 := C9_ha.zfr fb (fun j h1 h2 => by omega)
        have S2_hb := S2
        have r2 := (⟨r0, z2⟩ : Rd2 l x e (o2, u2, c2))
        have b2 : (c2 + 7) / 8 ≤ (l).length := by have := (rdS_ok (by decide) z2).2.2.2.2.2; omega
        show WX _ _ _ 45 [(0, .ref q), (1, .ref 1), (2, .ref 67), (3, .int (nI e))] [.int (nI ((c2 + 7) / 8))] (n, s, hb)
        refine WX.s1 (L' := [(0, .ref q), (1, .ref 1), (2, .ref 67), (3, .int (nI ((c2 + 7) / 8)))]) rfl rfl ?_
        refine WX.s1 rfl rfl ?_
        refine WX.if_ rfl (fun c_47 => ?_) (fun c_47 => absurd ((nI_leI (a := 0) (b := (c2 + 7) / 8) (by omega) (by omega)).mpr (by omega)) c_47)
        clear c_47
        refine WX.s1 rfl rfl ?_
        refine WX.get1 (fs := [.ref (q + 1), .ref (q + 3), .ref (q + 7), .ref (q + 14), .ref (q + 21), .ref (q + 28)]) rfl (by omega) (F_hb_q) rfl ?_
        refine WX.s1 rfl rfl ?_
        refine WX.s1 rfl rfl ?_
        refine WX.s1 rfl rfl ?_
        refine WX.get1 (fs := [.ref 2, .int (nI (l).length), .int 0, .long 0, .int 0]) rfl (by omega) (F_hb_1) rfl ?_
        refine WX.s1 rfl rfl ?_
        refine WX.callC (vs := [.ref (q + 21), .ref 1, .int (nI ((c2 + 7) / 8)), .int (nI (l).length), .int (nI 9)]) rfl rfl rfl (Nat.le_of_ble_eq_true rfl) ((P_hb_s3).rcv (by omega)) ?_
        refine x_rdF (d := d + 2) (k := q + 21) (la := 52) (M := 512) (G := 9) hn (by omega) (by omega) (by decide) (by decide) (by decide) (by decide) (by omega) hle P_hb_s3 P_hb_in (fun z3 hc fc S3 => ?_) (fun o3 u3 c3 z3 hc fc S3 => ?_)
        · skip
          have F_hc_q : hc q = .inr (9, [.ref (q + 1), .ref (q + 3), .ref (q + 7), .ref (q + 14), .ref (q + 21), .ref (q + 28)]) := (fc _ (by omega)).trans F_hb_q
          have F_hc_1 : hc 1 = .inr (7, [.ref 2, .int (nI (l).length), .int 0, .long 0, .int 0]) := (fc _ (by omega)).trans F_hb_1
          have F_hc__q_28_ : hc (q + 28) = .inl (1, 3, .inl tA) := (fc _ (by omega)).trans F_hb__q_28_
          have P_hc_in : RowIs hc 1 8000 (some l) 0 0 := (P_hb_in).zfr fc (by omega) (by omega)
          have P_hc_no : RowIs hc (q + 1) 0 (some []) 0 0 := (P_hb_no).zfr fc (by omega) (by omega)
          have P_hc_dx : DX hc := (P_hb_dx).zfr fc (fun j h1 h2 => by omega)
          have P_hc_co : CoX hc (q + 3) := (P_hb_co).zfr fc (fun j h1 h2 => by omega)
          have P_hc_s1 : ShX hc (q + 7) 35 512 := (P_hb_s1).zfr fc (fun j h1 h2 => by omega)
          have P_hc_s2 : ShX hc (q + 14) 31 256 := (P_hb_s2).zfr fc (fun j h1 h2 => by omega)
          have FR_hc : Fr h hc (fun j => (q + 3 ≤ j ∧ j ≤ q + 28) ∨ (67 ≤ j ∧ j ≤ 80)) := (FR_hb).ztr ((fc).mono (fun j hj => by omega))
          have P_hc_s3 : ShX hc (q + 21) 52 512 := S3.toX
          have C9_hc : CoT hc (q + 3) x.1 x.2 := C9_hb.zfr fc (fun j h1 h2 => by omega)
          have S2_hc : ShT hc (q + 14) 31 256 o2 u2 := S2_hb.zfr fc (fun j h1 h2 => by omega)
          show WX _ _ _ 69 [(0, .ref q), (1, .ref 1), (2, .ref 67), (3, .int (nI ((c2 + 7) / 8)))] [.int (-1)] (n, s, hc)
          refine WX.s1 (L' := [(0, .ref q), (1, .ref 1), (2, .ref 67), (3, .int (-1))]) rfl rfl ?_
          refine WX.s1 rfl rfl ?_
          refine WX.if_ rfl (fun c_71 => absurd c_71 (by decide)) (fun c_71 => ?_)
          clear c_71
          refine WX.s1 rfl rfl ?_
          refine WX.s1 rfl rfl ?_
          refine WX.s1 (L' := [(0, .ref q), (1, .ref 1), (2, .ref 67), (3, .int (-1))]) rfl rfl ?_
          refine WX.s1 rfl rfl ?_
          refine WX.if_ rfl (fun c_95 => absurd c_95 (by decide)) (fun c_95 => ?_)
          clear c_95
          refine WX.s1 rfl rfl ?_
          exact WX.ret1 rfl (k0 3 _ (Or.inr (Or.inr (Or.inl ⟨rfl, Or.inr (Or.inl ⟨x, e, (o2, u2, c2), r2, z3⟩)⟩))) (by decide) (by decide) (by decide) hc FR_hc ⟨F_hc_q, P_hc_no, P_hc_co, P_hc_s1, P_hc_s2, P_hc_s3, _, F_hc__q_28_⟩ P_hc_dx)
        · skip
          have F_hc_q : hc q = .inr (9, [.ref (q + 1), .ref (q + 3), .ref (q + 7), .ref (q + 14), .ref (q + 21), .ref (q + 28)]) := (fc _ (by omega)).trans F_hb_q
          have F_hc_1 : hc 1 = .inr (7, [.ref 2, .int (nI (l).length), .int 0, .long 0, .int 0]) := (fc _ (by omega)).trans F_hb_1
          have F_hc__q_28_ : hc (q + 28) = .inl (1, 3, .inl tA) := (fc _ (by omega)).trans F_hb__q_28_
          have P_hc_in : RowIs hc 1 8000 (some l) 0 0 := (P_hb_in).zfr fc (by omega) (by omega)
          have P_hc_no : RowIs hc (q + 1) 0 (some []) 0 0 := (P_hb_no).zfr fc (by omega) (by omega)
          have P_hc_dx : DX hc := (P_hb_dx).zfr fc (fun j h1 h2 => by omega)
          have P_hc_co : CoX hc (q + 3) := (P_hb_co).zfr fc (fun j h1 h2 => by omega)
          have P_hc_s1 : ShX hc (q + 7) 35 512 := (P_hb_s1).zfr fc (fun j h1 h2 => by omega)
          have P_hc_s2 : ShX hc (q + 14) 31 256 := (P_hb_s2).zfr fc (fun j h1 h2 => by omega)
          have FR_hc : Fr h hc (fun j => (q + 3 ≤ j ∧ j ≤ q + 28) ∨ (67 ≤ j ∧ j ≤ 80)) := (FR_hb).ztr ((fc).mono (fun j hj => by omega))
          have P_hc_s3 : ShX hc (q + 21) 52 512 := S3.toX2
          have C9_hc : CoT hc (q + 3) x.1 x.2 := C9_hb.zfr fc (fun j h1 h2 => by omega)
          have S2_hc : ShT hc (q + 14) 31 256 o2 u2 := S2_hb.zfr fc (fun j h1 h2 => by omega)
          have S3_hc := S3
          have r3 := (⟨r2, z3⟩ : Rd3_ l x e (o2, u2, c2) (o3, u3, c3))
          have b3 : (c3 + 7) / 8 ≤ (l).length := by have := (rdS_ok (by decide) z3).2.2.2.2.2; omega
          show WX _ _ _ 69 [(0, .ref q), (1, .ref 1), (2, .ref 67), (3, .int (nI ((c2 + 7) / 8)))] [.int (nI ((c3 + 7) / 8))] (n, s, hc)
          refine WX.s1 (L' := [(0, .ref q), (1, .ref 1), (2, .ref 67), (3, .int (nI ((c3 + 7) / 8)))]) rfl rfl ?_
          refine WX.s1 rfl rfl ?_
          refine WX.if_ rfl (fun c_71 => ?_) (fun c_71 => absurd ((nI_leI (a := 0) (b := (c3 + 7) / 8) (by omega) (by omega)).mpr (by omega)) c_71)
          clear c_71
          refine WX.s1 rfl rfl ?_
          refine WX.get1 (fs := [.ref (q + 1), .ref (q + 3), .ref (q + 7), .ref (q + 14), .ref (q + 21), .ref (q + 28)]) rfl (by omega) (F_hc_q) rfl ?_
          refine WX.s1 rfl rfl ?_
          refine WX.s1 rfl rfl ?_
          refine WX.s1 rfl rfl ?_
          refine WX.get1 (fs := [.ref 2, .int (nI (l).length), .int 0, .long 0, .int 0]) rfl (by omega) (F_hc_1) rfl ?_
          refine WX.s1 rfl rfl ?_
          refine WX.callC (vs := [.ref (q + 7), .ref 1, .int (nI ((c3 + 7) / 8)), .int (nI (l).length), .int (nI 9)]) rfl rfl rfl (Nat.le_of_ble_eq_true rfl) ((P_hc_s1).rcv (by omega)) ?_
          refine x_rdF (d := d + 2) (k := q + 7) (la := 35) (M := 512) (G := 9) hn (by omega) (by omega) (by decide) (by decide) (by decide) (by decide) (by omega) hle P_hc_s1 P_hc_in (fun z1 hd fd S1 => ?_) (fun o1 u1 c1 z1 hd fd S1 => ?_)
          · skip
            have F_hd_q : hd q = .inr (9, [.ref (q + 1), .ref (q + 3), .ref (q + 7), .ref (q + 14), .ref (q + 21), .ref (q + 28)]) := (fd _ (by omega)).trans F_hc_q
            have F_hd_1 : hd 1 = .inr (7, [.ref 2, .int (nI (l).length), .int 0, .long 0, .int 0]) := (fd _ (by omega)).trans F_hc_1
            have F_hd__q_28_ : hd (q + 28) = .inl (1, 3, .inl tA) := (fd _ (by omega)).trans F_hc__q_28_
            have P_hd_in : RowIs hd 1 8000 (some l) 0 0 := (P_hc_in).zfr fd (by omega) (by omega)
            have P_hd_no : RowIs hd (q + 1) 0 (some []) 0 0 := (P_hc_no).zfr fd (by omega) (by omega)
            have P_hd_dx : DX hd := (P_hc_dx).zfr fd (fun j h1 h2 => by omega)
            have P_hd_co : CoX hd (q + 3) := (P_hc_co).zfr fd (fun j h1 h2 => by omega)
            have P_hd_s2 : ShX hd (q + 14) 31 256 := (P_hc_s2).zfr fd (fun j h1 h2 => by omega)
            have P_hd_s3 : ShX hd (q + 21) 52 512 := (P_hc_s3).zfr fd (fun j h1 h2 => by omega)
            have FR_hd : Fr h hd (fun j => (q + 3 ≤ j ∧ j ≤ q + 28) ∨ (67 ≤ j ∧ j ≤ 80)) := (FR_hc).ztr ((fd).mono (fun j hj => by omega))
            have P_hd_s1 : ShX hd (q + 7) 35 512 := S1.toX
            have C9_hd : CoT hd (q + 3) x.1 x.2 := C9_hc.zfr fd (fun j h1 h2 => by omega)
            have S2_hd : ShT hd (q + 14) 31 256 o2 u2 := S2_hc.zfr fd (fun j h1 h2 => by omega)
            have S3_hd : ShT hd (q + 21) 52 512 o3 u3 := S3_hc.zfr fd (fun j h1 h2 => by omega)
            show WX _ _ _ 93 [(0, .ref q), (1, .ref 1), (2, .ref 67), (3, .int (nI ((c3 + 7) / 8)))] [.int (-1)] (n, s, hd)
            refine WX.s1 (L' := [(0, .ref q), (1, .ref 1), (2, .ref 67), (3, .int (-1))]) rfl rfl ?_
            refine WX.s1 rfl rfl ?_
            refine WX.if_ rfl (fun c_95 => absurd c_95 (by decide)) (fun c_95 => ?_)
            clear c_95
            refine WX.s1 rfl rfl ?_
            exact WX.ret1 rfl (k0 3 _ (Or.inr (Or.inr (Or.inl ⟨rfl, Or.inr (Or.inr ⟨x, e, (o2, u2, c2), (o3, u3, c3), r3, z1⟩)⟩))) (by decide) (by decide) (by decide) hd FR_hd ⟨F_hd_q, P_hd_no, P_hd_co, P_hd_s1, P_hd_s2, P_hd_s3, _, F_hd__q_28_⟩ P_hd_dx)
          · skip
            have F_hd_q : hd q = .inr (9, [.ref (q + 1), .ref (q + 3), .ref (q + 7), .ref (q + 14), .ref (q + 21), .ref (q + 28)]) := (fd _ (by omega)).trans F_hc_q
            have F_hd_1 : hd 1 = .inr (7, [.ref 2, .int (nI (l).length), .int 0, .long 0, .int 0]) := (fd _ (by omega)).trans F_hc_1
            have F_hd__q_28_ : hd (q + 28) = .inl (1, 3, .inl tA) := (fd _ (by omega)).trans F_hc__q_28_
            have P_hd_in : RowIs hd 1 8000 (some l) 0 0 := (P_hc_in).zfr fd (by omega) (by omega)
            have P_hd_no : RowIs hd (q + 1) 0 (some []) 0 0 := (P_hc_no).zfr fd (by omega) (by omega)
            have P_hd_dx : DX hd := (P_hc_dx).zfr fd (fun j h1 h2 => by omega)
            have P_hd_co : CoX hd (q + 3) := (P_hc_co).zfr fd (fun j h1 h2 => by omega)
            have P_hd_s2 : ShX hd (q + 14) 31 256 := (P_hc_s2).zfr fd (fun j h1 h2 => by omega)
            have P_hd_s3 : ShX hd (q + 21) 52 512 := (P_hc_s3).zfr fd (fun j h1 h2 => by omega)
            have FR_hd : Fr h hd (fun j => (q + 3 ≤ j ∧ j ≤ q + 28) ∨ (67 ≤ j ∧ j ≤ 80)) := (FR_hc).ztr ((fd).mono (fun j hj => by omega))
            have P_hd_s1 : ShX hd (q + 7) 35 512 := S1.toX2
            have C9_hd : CoT hd (q + 3) x.1 x.2 := C9_hc.zfr fd (fun j h1 h2 => by omega)
            have S2_hd : ShT hd (q + 14) 31 256 o2 u2 := S2_hc.zfr fd (fun j h1 h2 => by omega)
            have S3_hd : ShT hd (q + 21) 52 512 o3 u3 := S3_hc.zfr fd (fun j h1 h2 => by omega)
            have S1_hd := S1
            have r1 := (⟨r3, z1⟩ : Rd1 l x e (o1, u1, c1) (o2, u2, c2) (o3, u3, c3))
            have b1 : (c1 + 7) / 8 ≤ (l).length := by have := (rdS_ok (by decide) z1).2.2.2.2.2; omega
            show WX _ _ _ 93 [(0, .ref q), (1, .ref 1), (2, .ref 67), (3, .int (nI ((c3 + 7) / 8)))] [.int (nI ((c1 + 7) / 8))] (n, s, hd)
            refine WX.s1 (L' := [(0, .ref q), (1, .ref 1), (2, .ref 67), (3, .int (nI ((c1 + 7) / 8)))]) rfl rfl ?_
            refine WX.s1 rfl rfl ?_
            refine WX.if_ rfl (fun c_95 => ?_) (fun c_95 => absurd ((nI_leI (a := 0) (b := (c1 + 7) / 8) (by omega) (by omega)).mpr (by omega)) c_95)
            clear c_95
            refine WX.s1 rfl rfl ?_
            refine WX.get1 (fs := [.ref 2, .int (nI (l).length), .int 0, .long 0, .int 0]) rfl (by omega) (F_hd_1) rfl ?_
            refine WX.s1 rfl rfl ?_
            refine WX.s1 (S' := [.int ((nI (l).length) - (nI ((c1 + 7) / 8)))]) rfl rfl ?_
            rw [nI_subN b1]
            refine WX.s1 rfl rfl ?_
            by_cases hL : 12 ≤ (l).length - ((c1 + 7) / 8)
            · skip
              refine WX.s1 (S' := [.int ((nI ((l).length - ((c1 + 7) / 8))) - 12)]) rfl rfl ?_
              rw [show nI ((l).length - ((c1 + 7) / 8)) - 12 = nI ((l).length - (((c1 + 7) / 8) + 12)) from (nI_subN (b := 12) hL).trans (congrArg nI (by omega))]
              refine WX.s1 (L' := [(0, .ref q), (1, .ref 1), (2, .ref 67), (3, .int (nI ((c1 + 7) / 8))), (4, .int (nI ((l).length - (((c1 + 7) / 8) + 12))))]) rfl rfl ?_
              refine WX.s1 rfl rfl ?_
              refine WX.if_ rfl (fun c_114 => ?_) (fun c_114 => absurd ((nI_leI (a := 0) (b := (l).length - (((c1 + 7) / 8) + 12)) (by omega) (by omega)).mpr (by omega)) c_114)
              clear c_114
              refine WX.s1 rfl rfl ?_
              refine WX.s1 (L' := [(0, .ref q), (1, .ref 1), (2, .ref 67), (3, .int (nI ((c1 + 7) / 8))), (4, .int (nI ((l).length - (((c1 + 7) / 8) + 12)))), (5, .int 0)]) rfl rfl ?_
              have lp : ∀ (t i : Nat) (hL_ : Nat → aE) (tL : Nat → Int32), i + t = 3 → Fr hd hL_ (fun j => j = q + 28) → hL_ q = .inr (9, [.ref (q + 1), .ref (q + 3), .ref (q + 7), .ref (q + 14), .ref (q + 21), .ref (q + 28)]) → hL_ 1 = .inr (7, [.ref 2, .int (nI (l).length), .int 0, .long 0, .int 0]) → hL_ (q + 28) = .inl (1, 3, .inl tL) → RowIs hL_ 1 8000 (some l) 0 0 → (∀ j, j < i → dOk l ((c1 + 7) / 8) j ∧ tL j = nI (dIs l ((c1 + 7) / 8) j)) → WX (lk tX9_readFrom) (mM (d + 6)) Ψ 122 [(0, .ref q), (1, .ref 1), (2, .ref 67), (3, .int (nI ((c1 + 7) / 8))), (4, .int (nI ((l).length - (((c1 + 7) / 8) + 12)))), (5, .int (nI i))] [] (n, s, hL_) := by
                intro t
                induction t with
                | zero =>
                  intro i hL_ tL ht fL F_hL__q F_hL__1 F_hL___q_28_ P_hL__in hI
                  have FR_hL_ : Fr h hL_ (fun j => (q + 3 ≤ j ∧ j ≤ q + 28) ∨ (67 ≤ j ∧ j ≤ 80)) := (FR_hd).ztr ((fL).mono (fun j hj => by omega))
                  obtain rfl : i = 3 := by omega
                  refine WX.s1 rfl rfl ?_
                  refine WX.s1 rfl rfl ?_
                  refine WX.get1 (fs := [.ref (q + 1), .ref (q + 3), .ref (q + 7), .ref (q + 14), .ref (q + 21), .ref (q + 28)]) rfl (by omega) (F_hL__q) rfl ?_
                  refine WX.len1 rfl (Or.inl ⟨by omega, by decide⟩) (F_hL___q_28_) ?_
                  refine WX.icmp rfl (fun c_129 => ?_) (fun c_129 => absurd ((nI_leI (a := 3) (b := 3) (by omega) (by omega)).mpr (by omega)) c_129)
                  clear c_129
                  refine WX.s1 rfl rfl ?_
                  refine WX.s1 rfl rfl ?_
                  refine WX.s1 (S' := [.int ((nI ((c1 + 7) / 8)) + 12)]) rfl rfl ?_
                  rw [show ((nI ((c1 + 7) / 8)) + 12) = nI ((c1 + 7) / 8 + 12) from nI_add ((c1 + 7) / 8) 12]
                  refine WX.ret1 rfl (k1 (mkT l x (o1, u1, c1) (o2, u2, c2) (o3, u3, c3)) (((c1 + 7) / 8) + 12) ⟨x, e, (o1, u1, c1), (o2, u2, c2), (o3, u3, c3), r1, by show ¬ (l).length < ((c1 + 7) / 8) + 12; omega, fun i hi => (hI i hi).1, rfl⟩ hL_ FR_hL_ ⟨F_hL__q, (P_hd_no).zfr fL (by omega) (by omega), ?_, ?_, ?_, ?_, ⟨tL, F_hL___q_28_, (hI 0 (by decide)).2, (hI 1 (by decide)).2, (hI 2 (by decide)).2⟩⟩ ((P_hd_dx).zfr fL (fun j h1 h2 => by omega)))
                  · exact (show CoT hL_ (q + 3) x.1 x.2 from C9_hd.zfr fL (fun j h1 h2 => by omega))
                  · exact (show ShT hL_ _ _ _ o1 u1 from S1_hd.zfr fL (fun j h1 h2 => by omega))
                  · exact (show ShT hL_ _ _ _ o2 u2 from S2_hd.zfr fL (fun j h1 h2 => by omega))
                  · exact (show ShT hL_ _ _ _ o3 u3 from S3_hd.zfr fL (fun j h1 h2 => by omega))
                | succ t ih =>
                  intro i hL_ tL ht fL F_hL__q F_hL__1 F_hL___q_28_ P_hL__in hI
                  have FR_hL_ : Fr h hL_ (fun j => (q + 3 ≤ j ∧ j ≤ q + 28) ∨ (67 ≤ j ∧ j ≤ 80)) := (FR_hd).ztr ((fL).mono (fun j hj => by omega))
                  have hd4 := wd4_lt hlt ((c1 + 7) / 8) i
                  refine WX.s1 rfl rfl ?_
                  refine WX.s1 rfl rfl ?_
                  refine WX.get1 (fs := [.ref (q + 1), .ref (q + 3), .ref (q + 7), .ref (q + 14), .ref (q + 21), .ref (q + 28)]) rfl (by omega) (F_hL__q) rfl ?_
                  refine WX.len1 rfl (Or.inl ⟨by omega, by decide⟩) (F_hL___q_28_) ?_
                  refine WX.icmp rfl (fun c_129 => absurd c_129 (fun zz_ => absurd ((nI_leI (a := 3) (b := i) (by omega) (by omega)).mp zz_) (Nat.not_le.mpr (by omega)))) (fun c_129 => ?_)
                  clear c_129
                  refine WX.s1 rfl rfl ?_
                  refine WX.s1 rfl rfl ?_
                  refine WX.s1 rfl rfl ?_
                  refine WX.s1 rfl rfl ?_
                  refine WX.s1 (S' := [.int (4 * (nI i)), .int (nI ((c1 + 7) / 8)), .ref 1]) rfl rfl ?_
                  rw [show (4 * (nI i)) = nI (4 * i) from (Int32.ofNat_mul 4 i).symm]
                  refine WX.s1 (S' := [.int ((nI ((c1 + 7) / 8)) + (nI (4 * i))), .ref 1]) rfl rfl ?_
                  rw [show ((nI ((c1 + 7) / 8)) + (nI (4 * i))) = nI ((c1 + 7) / 8 + 4 * i) from nI_add ((c1 + 7) / 8) (4 * i)]
                  refine WX.s1 rfl rfl ?_
                  refine WX.callC (vs := [.ref 1, .int (nI ((c1 + 7) / 8 + 4 * i)), .int 4]) rfl rfl rfl (Nat.le_of_ble_eq_true rfl) ((P_hL__in).rcv (by omega)) ?_
                  refine x_num (d := d + 4) (a := ((c1 + 7) / 8) + 4 * i) (b := 4) hn (by omega) (by decide) P_hL__in ?_
                  show WX _ _ _ 143 [(0, .ref q), (1, .ref 1), (2, .ref 67), (3, .int (nI ((c1 + 7) / 8))), (4, .int (nI ((l).length - (((c1 + 7) / 8) + 12)))), (5, .int (nI i))] [.long (lN (dIs l ((c1 + 7) / 8) i))] (n, s, hL_)
                  refine WX.s1 (L' := [(0, .ref q), (1, .ref 1), (2, .ref 67), (3, .int (nI ((c1 + 7) / 8))), (4, .int (nI ((l).length - (((c1 + 7) / 8) + 12)))), (5, .int (nI i)), (6, .long (lN (dIs l ((c1 + 7) / 8) i)))]) rfl rfl ?_
                  refine WX.s1 rfl rfl ?_
                  refine WX.s1 rfl rfl ?_
                  refine WX.s1 (S' := [.int (lg_cmp (lN (dIs l ((c1 + 7) / 8) i)) 0)]) rfl rfl ?_
                  refine WX.if_ rfl (fun c_149 => ?_) (fun c_149 => ?_)
                  · skip
                    refine WX.s1 rfl rfl ?_
                    exact WX.ret1 rfl (k0 4 _ (Or.inr (Or.inr (Or.inr ⟨x, e, (o1, u1, c1), (o2, u2, c2), (o3, u3, c3), r1, Or.inr ⟨rfl, by show ¬ (l).length < ((c1 + 7) / 8) + 12; omega, fun z => absurd ((lcN_eq (b := 0) (by omega) (by decide)).mp c_149) (z i (by omega)).1⟩⟩))) (by decide) (by decide) (by decide) hL_ FR_hL_ ⟨F_hL__q, (P_hd_no).zfr fL (by omega) (by omega), (P_hd_co).zfr fL (fun j h1 h2 => by omega), (P_hd_s1).zfr fL (fun j h1 h2 => by omega), (P_hd_s2).zfr fL (fun j h1 h2 => by omega), (P_hd_s3).zfr fL (fun j h1 h2 => by omega), _, F_hL___q_28_⟩ ((P_hd_dx).zfr fL (fun j h1 h2 => by omega)))
                  · skip
                    refine WX.s1 rfl rfl ?_
                    refine WX.s1 rfl rfl ?_
                    refine WX.s1 (S' := [.long ((nI ((l).length - (((c1 + 7) / 8) + 12))).toInt64), .long (lN (dIs l ((c1 + 7) / 8) i))]) rfl rfl ?_
                    rw [nI_l (by omega)]
                    refine WX.s1 (S' := [.int (lg_cmp (lN (dIs l ((c1 + 7) / 8) i)) (lN ((l).length - (((c1 + 7) / 8) + 12))))]) rfl rfl ?_
                    refine WX.if_ rfl (fun c_158 => ?_) (fun c_158 => ?_)
                    · skip
                      refine WX.s1 rfl rfl ?_
                      refine WX.get1 (fs := [.ref (q + 1), .ref (q + 3), .ref (q + 7), .ref (q + 14), .ref (q + 21), .ref (q + 28)]) rfl (by omega) (F_hL__q) rfl ?_
                      refine WX.s1 rfl rfl ?_
                      refine WX.s1 rfl rfl ?_
                      refine WX.s1 (S' := [.int ((lN (dIs l ((c1 + 7) / 8) i)).toInt32), .int (nI i), .ref (q + 28)]) rfl rfl ?_
                      rw [lN_i]
                      refine WX.iastN rfl (by omega) (F_hL___q_28_) (vp_in_nI (N := 3) (by omega) (by decide)) (fun g173 h173 e_g173 e_h173 => ?_)
                      have FRn : ∀ j, ¬ j = q + 28 → h173 j = hL_ j := fun j hj => by rw [e_h173]; exact va_up_neq hj
                      try dsimp only at e_g173
                      have F_h173_q : h173 q = .inr (9, [.ref (q + 1), .ref (q + 3), .ref (q + 7), .ref (q + 14), .ref (q + 21), .ref (q + 28)]) := by rw [e_h173, va_up_neq (by omega)]; exact F_hL__q
                      have F_h173_1 : h173 1 = .inr (7, [.ref 2, .int (nI (l).length), .int 0, .long 0, .int 0]) := by rw [e_h173, va_up_neq (by omega)]; exact F_hL__1
                      have F_h173__q_28_ : h173 (q + 28) = .inl (1, 3, .inl g173) := by rw [e_h173]; exact va_up_eq
                      have P_h173_in : RowIs h173 1 8000 (some l) 0 0 := (P_hL__in).zfr (Fr.of e_h173) (by omega) (by omega)
                      have FR_h173 : Fr h h173 (fun j => (q + 3 ≤ j ∧ j ≤ q + 28) ∨ (67 ≤ j ∧ j ≤ 80)) := (FR_hL_).zup e_h173 (by first | exact rfl | exact Or.inl rfl | exact Or.inr rfl | exact ⟨by decide, by decide⟩ | decide | omega)
                      clear F_hL__q F_hL__1 F_hL___q_28_ P_hL__in FR_hL_ e_h173
                      refine WX.s1 (L' := [(0, .ref q), (1, .ref 1), (2, .ref 67), (3, .int (nI ((c1 + 7) / 8))), (4, .int (nI ((l).length - (((c1 + 7) / 8) + 12)))), (5, .int ((nI i) + 1)), (6, .long (lN (dIs l ((c1 + 7) / 8) i)))]) rfl rfl ?_
                      rw [show ((nI i) + 1) = nI (i + 1) from nI_add i 1]
                      refine WX.s1 rfl rfl ?_
                      rw [nI_clamp (by omega)] at e_g173
                      have hn0 : (dIs l ((c1 + 7) / 8) i) ≠ 0 := fun z => c_149 ((lcN_eq (b := 0) (by omega) (by decide)).mpr z)
                      have hnl : (dIs l ((c1 + 7) / 8) i) ≤ ((l).length - (((c1 + 7) / 8) + 12)) := (pk_lLE (by omega) (by omega)).mp ((lcmp_le).mp c_158)
                      refine WX.keep (y := 118) [0, 1, 2, 3, 4, 5] (show ([0, 1, 2, 3, 4, 5, 6] : List Nat).Nodup by decide) rfl ?_
                      have f9 : Fr hd h173 (fun j => j = q + 28) := fun j hj => (FRn j hj).trans (fL j hj)
                      refine ih (i + 1) h173 g173 (by omega) f9 F_h173_q F_h173_1 F_h173__q_28_ P_h173_in (fun j hj => ?_)
                      by_cases z : j = i
                      · rw [z]; exact ⟨⟨hn0, hnl⟩, by rw [e_g173, pk_us]⟩
                      · rw [e_g173, pk_un z]; exact hI j (by omega)
                    · skip
                      refine WX.s1 rfl rfl ?_
                      exact WX.ret1 rfl (k0 4 _ (Or.inr (Or.inr (Or.inr ⟨x, e, (o1, u1, c1), (o2, u2, c2), (o3, u3, c3), r1, Or.inr ⟨rfl, by show ¬ (l).length < ((c1 + 7) / 8) + 12; omega, fun z => c_158 ((lcmp_le).mpr ((pk_lLE (by omega) (by omega)).mpr (z i (by omega)).2))⟩⟩))) (by decide) (by decide) (by decide) hL_ FR_hL_ ⟨F_hL__q, (P_hd_no).zfr fL (by omega) (by omega), (P_hd_co).zfr fL (fun j h1 h2 => by omega), (P_hd_s1).zfr fL (fun j h1 h2 => by omega), (P_hd_s2).zfr fL (fun j h1 h2 => by omega), (P_hd_s3).zfr fL (fun j h1 h2 => by omega), _, F_hL___q_28_⟩ ((P_hd_dx).zfr fL (fun j h1 h2 => by omega)))
              exact lp 3 0 hd tA (by omega) Fr.rf F_hd_q F_hd_1 F_hd__q_28_ P_hd_in (fun j hj => absurd hj (Nat.not_lt_zero j))
            · skip
              refine WX.s1 (S' := [.int ((nI ((l).length - ((c1 + 7) / 8))) - 12)]) rfl rfl ?_
              refine WX.s1 (L' := [(0, .ref q), (1, .ref 1), (2, .ref 67), (3, .int (nI ((c1 + 7) / 8))), (4, .int ((nI ((l).length - ((c1 + 7) / 8))) - 12))]) rfl rfl ?_
              refine WX.s1 rfl rfl ?_
              refine WX.if_ rfl (fun c_114 => absurd c_114 (sub_nle (E := (l).length - ((c1 + 7) / 8)) (x := 12) (y := 0) (by omega) (by decide) (by decide) (by omega))) (fun c_114 => ?_)
              refine WX.s1 rfl rfl ?_
              exact WX.ret1 rfl (k0 1 _ (Or.inr (Or.inr (Or.inr ⟨x, e, (o1, u1, c1), (o2, u2, c2), (o3, u3, c3), r1, Or.inl ⟨rfl, by show (l).length < ((c1 + 7) / 8) + 12; omega⟩⟩))) (by decide) (by decide) (by decide) hd FR_hd ⟨F_hd_q, P_hd_no, P_hd_co, P_hd_s1, P_hd_s2, P_hd_s3, _, F_hd__q_28_⟩ P_hd_dx)
  · skip
    have n_6 : (l).length < 8 := Nat.lt_of_not_le (fun zz_ => c_6 ((nI_leI (a := 8) (b := (l).length) (by omega) (by omega)).mpr zz_))
    refine WX.s1 rfl rfl ?_
    exact WX.ret1 rfl (k0 1 _ (Or.inl ⟨rfl, by omega⟩) (by decide) (by decide) (by decide) h FR_h ⟨F_h_q, P_h_no, P_h_co, P_h_s1, P_h_s2, P_h_s3, _, F_h__q_28_⟩ P_h_dx)
