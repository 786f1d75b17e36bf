/-! a frame: its blocks; the class's state as it lies; press -/
noncomputable def blks (D : Nat → Nat) (way least win dn cut u : Nat) : Nat → Nat → PkS → List Nat × PkS
  | 0, _, S => ([], S)
  | t + 1, f, S => if u ≤ min (f + cut) u then (blkB D way least win (dn + f) (dn + min (f + cut) u) 1 S, blkT D way least win (dn + f) (dn + min (f + cut) u) S) else (blkB D way least win (dn + f) (dn + min (f + cut) u) 0 S ++ (blks D way least win dn cut u t (min (f + cut) u) (blkT D way least win (dn + f) (dn + min (f + cut) u) S)).1, (blks D way least win dn cut u t (min (f + cut) u) (blkT D way least win (dn + f) (dn + min (f + cut) u) S)).2)
theorem blks_end {D : Nat → Nat} {way least win dn cut u t f : Nat} {S : PkS} (h : u ≤ min (f + cut) u) : blks D way least win dn cut u (t + 1) f S = (blkB D way least win (dn + f) (dn + min (f + cut) u) 1 S, blkT D way least win (dn + f) (dn + min (f + cut) u) S) := if_pos h
theorem blks_more {D : Nat → Nat} {way least win dn cut u t f : Nat} {S : PkS} (h : ¬ u ≤ min (f + cut) u) : blks D way least win dn cut u (t + 1) f S = (blkB D way least win (dn + f) (dn + min (f + cut) u) 0 S ++ (blks D way least win dn cut u t (min (f + cut) u) (blkT D way least win (dn + f) (dn + min (f + cut) u) S)).1, (blks D way least win dn cut u t (min (f + cut) u) (blkT D way least win (dn + f) (dn + min (f + cut) u) S)).2) := if_neg h
def catD (ld l : List Nat) : Nat → Nat := fun i => (ld ++ l).getD i 0
def winN (fl e u : Nat) : Nat := if sgN fl = 1 then u else 2 ^ (10 + e)
noncomputable def prS (fl e cut way least : Nat) (ld l : List Nat) (T : PkS) : List Nat × PkS := blks (catD ld l) way least (winN fl e (l).length) (ld).length cut (l).length ((l).length + 1) 0 (pkNt T (fun _ => 0))
noncomputable def prY (fl e cut id way least : Nat) (ld l : List Nat) (T : PkS) : List Nat := hdF fl e id (l).length ++ ((prS fl e cut way least ld l T).1 ++ (if fl % 2 = 1 then leL (wsF l) 4 else []))
theorem idP {P : Prop} (h : P) : P := h
theorem bputs_all (N : Nat) (L : List Nat) : bputs N (some []) L = if L.length ≤ N then some L else none := by
  by_cases z : L.length ≤ N
  · rw [if_pos z]
    have : ∀ (a b : List Nat), (a ++ b).length ≤ N → bputs N (some a) b = some (a ++ b) := by
      intro a b
      induction b generalizing a with
      | nil => intro _; rw [List.append_nil]; rfl
      | cons x b ih =>
        intro hl
        rw [List.length_append, List.length_cons] at hl
        show bputs N (bput N (some a) x) b = _
        rw [bput_ok (by omega), ih _ (by rw [List.length_append, List.length_append, List.length_singleton]; omega), List.append_assoc]
        rfl
    exact this [] L z
  · rw [if_neg z]
    exact bputs_over L [] (Nat.zero_le _) (by show N < 0 + L.length; omega)
def PkR (h : Nat → aE) (S : PkS) : Prop := (∃ cnt, PaX h cnt) ∧ LaX h ∧ LatA h 86 S.2.2.2.2.1 ∧ TlA h S.2.2.2.2.2 ∧ LiX h S.1 ∧ DX h ∧ CX1 h S.2.1 ∧ CX2 h S.2.2.1 ∧ CX3 h S.2.2.2.1
theorem PkR.zfr {h h1 : Nat → aE} {A : Nat → Prop} {S : PkS} (r : PkR h S) (f : Fr h h1 A) (q : ∀ x, 67 ≤ x → x ≤ 188 → (x < 82 ∨ 85 < x) → ¬ A x) (q2 : ∀ x, aBig ≤ x → ¬ A x) : PkR h1 S := by
  obtain ⟨⟨cnt, a⟩, b, c, d, g, i, j, k, l⟩ := r
  exact ⟨⟨cnt, (f _ (q _ (by omega) (by omega) (by omega))).trans a⟩, (b).zfr f (q _ (by omega) (by omega) (by omega)), (c).zfr f (q _ (by omega) (by omega) (by omega)), (d).zfr f (q _ (by omega) (by omega) (by omega)), (g).zfr f (fun x h1 h2 => q _ (by omega) (by omega) (by omega)), (i).zfr f (fun x h1 h2 => q _ (by omega) (by omega) (by omega)), (j).zfr f (fun x h1 h2 => q _ (by omega) (by omega) (by omega)) (q2 _ (Nat.le_add_right _ _)) (q2 _ (Nat.le_add_right _ _)), (k).zfr f (fun x h1 h2 => q _ (by omega) (by omega) (by omega)) (q2 _ (Nat.le_add_right _ _)) (q2 _ (Nat.le_add_right _ _)), (l).zfr f (fun x h1 h2 => q _ (by omega) (by omega) (by omega)) (q2 _ (Nat.le_add_right _ _)) (q2 _ (Nat.le_add_right _ _))⟩
theorem PkY.sp {h : Nat → aE} {S : PkS} (r : PkY h S) : PkR h S ∧ FiZ h := ⟨⟨r.1, r.2.1, r.2.2.1, r.2.2.2.1, r.2.2.2.2.2⟩, r.2.2.2.2.1⟩
theorem PkR.toX {h : Nat → aE} {S : PkS} {D H : Nat → Nat} {U way least win : Nat} (r : PkR h S) (f : FiX h D H U way least win) : PkX h D H U way least win S := ⟨r.1, r.2.1, r.2.2.1, r.2.2.2.1, f, r.2.2.2.2⟩
theorem PkR.toY {h : Nat → aE} {S : PkS} (r : PkR h S) (f : FiZ h) : PkY h S := ⟨r.1, r.2.1, r.2.2.1, r.2.2.2.1, f, r.2.2.2.2⟩
theorem PkX.rcv {n s : Nat} {h : Nat → aE} {D H : Nat → Nat} {U way least win : Nat} {S : PkS} {vl : List Value} (r : PkX h D H U way least win S) (hk : 81 < n) : rcv 7 (.ref 81 :: vl) (n, s, h) = true := by
  obtain ⟨⟨cnt, a⟩, -⟩ := r
  exact rcv_ok hk a
theorem PkY.rcv {n s : Nat} {h : Nat → aE} {S : PkS} {vl : List Value} (r : PkY h S) (hk : 81 < n) : rcv 7 (.ref 81 :: vl) (n, s, h) = true := by
  obtain ⟨⟨cnt, a⟩, -⟩ := r
  exact rcv_ok hk a
def StZ (h : Nat → aE) (q : Nat) : Prop := h q = .inr (9, [.ref (q + 1), .ref (q + 3), .ref (q + 7), .ref (q + 14), .ref (q + 21), .ref (q + 28)]) ∧ RowIs h (q + 1) 0 (some []) 0 0 ∧ CoX h (q + 3) ∧ ShX h (q + 7) 35 512 ∧ ShX h (q + 14) 31 256 ∧ ShX h (q + 21) 52 512 ∧ ∃ a : Nat → Int32, h (q + 28) = .inl (1, 3, .inl a)
theorem StZ.zfr {h h1 : Nat → aE} {A : Nat → Prop} {q : Nat} (r : StZ h q) (f : Fr h h1 A) (z : ∀ x, q ≤ x → x ≤ q + 28 → ¬ A x) : StZ h1 q := by
  obtain ⟨a, b, c, d, e, g, ⟨ar, i⟩⟩ := r
  exact ⟨(f _ (z _ (by omega) (by omega))).trans a, (b).zfr f (z _ (by omega) (by omega)) (z _ (by omega) (by omega)), (c).zfr f (fun x h1 h2 => z _ (by omega) (by omega)), (d).zfr f (fun x h1 h2 => z _ (by omega) (by omega)), (e).zfr f (fun x h1 h2 => z _ (by omega) (by omega)), (g).zfr f (fun x h1 h2 => z _ (by omega) (by omega)), ar, (f _ (z _ (by omega) (by omega))).trans i⟩
theorem StX.toZ {h : Nat → aE} {q : Nat} {T : PkS} (r : StX h q T) : StZ h q := by
  obtain ⟨a, b, c, d, e, g, ⟨ar, i, -⟩⟩ := r
  exact ⟨a, b, (c).toX, (d).toX, (e).toX, (g).toX, ar, i⟩
def AbA (h : Nat → aE) (nt : Nat → Nat) : Prop := ∃ g : Nat → Int32, h 189 = .inl (1, 12, .inl g) ∧ ∀ q, q < 12 → g q = nI (nt q)
abbrev spO (ou ne sta dra id way least : Nat) : aE := .inr (10, [.ref 1, .ref ou, .ref ne, .ref 7, .long (lN id), .ref sta, .ref dra, .ref 67, .ref 81, .ref 189, .int (nI way), .int (nI least)])
def SPY (h : Nat → aE) (ou ne sta dra id way least : Nat) (l lo ld : List Nat) (T : PkS) (ab : Nat → Nat) : Prop := h 0 = spO ou ne sta dra id way least ∧ ((ou = 3 ∧ ne = 5) ∨ (ou = 5 ∧ ne = 3)) ∧ ((sta = 9 ∧ dra = 38) ∨ (sta = 38 ∧ dra = 9)) ∧ RowIs h 1 8000 (some l) 0 0 ∧ RowIs h ou 12000 (some lo) 0 0 ∧ RowE h ne 12000 ∧ RowIs h 7 8000 (some ld) 0 0 ∧ StX h sta T ∧ StZ h dra ∧ (∃ S, PkY h S) ∧ AbA h ab
def SPX (h : Nat → aE) (id way least : Nat) (l lo ld : List Nat) (T : PkS) (ab : Nat → Nat) : Prop := ∃ ou ne sta dra, SPY h ou ne sta dra id way least l lo ld T ab
theorem s_sh : ∀ e, e ≤ 11 → (1 : Int32) <<< (nI (10 + e) &&& 31) = nI (2 ^ (10 + e)) := by decide +kernel
theorem win_bd {fl e u : Nat} (he : e ≤ 11) (hu : u ≤ 8000) : winN fl e u < 2 ^ 30 := by
  unfold winN
  split
  · omega
  · exact Nat.pow_lt_pow_right (by decide) (by omega)
def SpF (b : Option (List Nat)) (sp : Int32) : Prop := match b with
  | some _ => sp = 0
  | none => sp = 1
theorem row_sp {h : Nat → aE} {k N : Nat} {b : Option (List Nat)} {ho : Int64} {hd : Int32} (r : RowIs h k N b ho hd) : ∃ (u : Nat) (sp : Int32), h k = .inr (7, [.ref (k + 1), .int (nI u), .int sp, .long ho, .int hd]) ∧ SpF b sp := by
  obtain ⟨g, u, sp, q0, q1⟩ := r
  refine ⟨u, sp, q0.1, ?_⟩
  cases b with
  | none => exact q1.2
  | some l => exact q1.2.1
theorem SpF.no {b : Option (List Nat)} (h : SpF b 0) : b ≠ none := fun z => by
  subst z
  exact absurd (show (0 : Int32) = 1 from h) (by decide)
theorem SpF.yes {b : Option (List Nat)} {sp : Int32} (h : SpF b sp) (hs : ¬ sp = 0) : b = none := by
  cases b with
  | none => rfl
  | some l => exact absurd h hs
theorem AbA.zfr {h h1 : Nat → aE} {A : Nat → Prop} {nt : Nat → Nat} (r : AbA h nt) (f : Fr h h1 A) (q : ¬ A 189) : AbA h1 nt := by
  obtain ⟨g, a, b⟩ := r
  exact ⟨g, (f _ q).trans a, b⟩
def PkRF (h : Nat → aE) (S : PkS) : Prop := PkR h S ∧ FiZ h
theorem PkRF.zfr {h h1 : Nat → aE} {A : Nat → Prop} {S : PkS} (r : PkRF h S) (f : Fr h h1 A) (q : ∀ x, 67 ≤ x → x ≤ 188 → ¬ A x) (q2 : ∀ x, aBig ≤ x → ¬ A x) : PkRF h1 S := ⟨r.1.zfr f (fun x h1 h2 _ => q x h1 h2) q2, r.2.zfr f (fun x h1 h2 => q x (by omega) (by omega))⟩
set_option maxRecDepth 20000 in
theorem x_bOut {d n s : Nat} {h : Nat → aE} {ou ne sta dra id way least N : Nat} {sp : Int32} {ho : Int64} {hd : Int32} (hn : 190 ≤ n) (hno : (ou = 3 ∧ ne = 5) ∨ (ou = 5 ∧ ne = 3)) (F_h_0 : h 0 = .inr (10, [.ref 1, .ref ou, .ref ne, .ref 7, .long (lN id), .ref sta, .ref dra, .ref 67, .ref 81, .ref 189, .int (nI way), .int (nI least)])) (F_h_ne : h ne = .inr (7, [.ref (ne + 1), .int (nI N), .int sp, .long ho, .int hd]))  {Ψ : Option Value → aH → Prop} (kk : ∀ h', Fr h h' (fun j => j = 0) → h' 0 = spO ne ou sta dra id way least → Ψ (some (.int (nI N))) (n, s, h')) : WO (mM (d + 1)) 136 [.ref 0] (n, s, h) Ψ := by
  refine WO.of (Nat.le_of_ble_eq_true rfl) ?_
  have FR_h : Fr h h (fun j => j = 0) := Fr.rf
  show WX (lk tX11_becomeOut) (mM d) Ψ 0 [(0, .ref 0)] [] (n, s, h)
  refine WX.s1 rfl rfl ?_
  refine WX.get1 (fs := [.ref 1, .ref ou, .ref ne, .ref 7, .long (lN id), .ref sta, .ref dra, .ref 67, .ref 81, .ref 189, .int (nI way), .int (nI least)]) rfl (by omega) (F_h_0) rfl ?_
  refine WX.asN (L' := [(0, .ref 0), (1, .ref ou)]) rfl rfl ?_
  refine WX.s1 rfl rfl ?_
  refine WX.s1 rfl rfl ?_
  refine WX.get1 (fs := [.ref 1, .ref ou, .ref ne, .ref 7, .long (lN id), .ref sta, .ref dra, .ref 67, .ref 81, .ref 189, .int (nI way), .int (nI least)]) rfl (by omega) (F_h_0) rfl ?_
  refine WX.put1 (fs := [.ref 1, .ref ou, .ref ne, .ref 7, .long (lN id), .ref sta, .ref dra, .ref 67, .ref 81, .ref 189, .int (nI way), .int (nI least)]) (fs' := [.ref 1, .ref ne, .ref ne, .ref 7, .long (lN id), .ref sta, .ref dra, .ref 67, .ref 81, .ref 189, .int (nI way), .int (nI least)]) rfl (by omega) (F_h_0) (Nat.le_of_ble_eq_true rfl) (rfl) rfl (fun h10 e_h10 => ?_)
  have F_h10_0 : h10 0 = .inr (10, [.ref 1, .ref ne, .ref ne, .ref 7, .long (lN id), .ref sta, .ref dra, .ref 67, .ref 81, .ref 189, .int (nI way), .int (nI least)]) := by rw [e_h10]; exact va_up_eq
  have F_h10_ne : h10 ne = .inr (7, [.ref (ne + 1), .int (nI N), .int sp, .long ho, .int hd]) := by rw [e_h10, va_up_neq (by omega)]; exact F_h_ne
  have FR_h10 : Fr h h10 (fun j => j = 0) := (FR_h).zup e_h10 (by first | exact rfl | exact Or.inl rfl | exact Or.inr rfl | exact ⟨by decide, by decide⟩ | decide | omega)
  clear F_h_0 F_h_ne FR_h e_h10
  refine WX.s1 rfl rfl ?_
  refine WX.s1 rfl rfl ?_
  refine WX.put1 (fs := [.ref 1, .ref ne, .ref ne, .ref 7, .long (lN id), .ref sta, .ref dra, .ref 67, .ref 81, .ref 189, .int (nI way), .int (nI least)]) (fs' := [.ref 1, .ref ne, .ref ou, .ref 7, .long (lN id), .ref sta, .ref dra, .ref 67, .ref 81, .ref 189, .int (nI way), .int (nI least)]) rfl (by omega) (F_h10_0) (Nat.le_of_ble_eq_true rfl) (rfl) rfl (fun h15 e_h15 => ?_)
  have F_h15_0 : h15 0 = .inr (10, [.ref 1, .ref ne, .ref ou, .ref 7, .long (lN id), .ref sta, .ref dra, .ref 67, .ref 81, .ref 189, .int (nI way), .int (nI least)]) := by rw [e_h15]; exact va_up_eq
  have F_h15_ne : h15 ne = .inr (7, [.ref (ne + 1), .int (nI N), .int sp, .long ho, .int hd]) := by rw [e_h15, va_up_neq (by omega)]; exact F_h10_ne
  have FR_h15 : Fr h h15 (fun j => j = 0) := (FR_h10).zup e_h15 (by first | exact rfl | exact Or.inl rfl | exact Or.inr rfl | exact ⟨by decide, by decide⟩ | decide | omega)
  clear F_h10_0 F_h10_ne FR_h10 e_h15
  refine WX.s1 rfl rfl ?_
  refine WX.get1 (fs := [.ref 1, .ref ne, .ref ou, .ref 7, .long (lN id), .ref sta, .ref dra, .ref 67, .ref 81, .ref 189, .int (nI way), .int (nI least)]) rfl (by omega) (F_h15_0) rfl ?_
  refine WX.get1 (fs := [.ref (ne + 1), .int (nI N), .int sp, .long ho, .int hd]) rfl (by omega) (F_h15_ne) rfl ?_
  exact WX.ret1 rfl (kk h15 FR_h15 F_h15_0)
set_option maxRecDepth 20000 in
theorem x_prEnd {d n s : Nat} {h : Nat → aE} {ou ne sta dra id way least fl e cut : Nat} {l lo ld : List Nat} {T : PkS} {ab : Nat → Nat} {S : PkS} (hn : 190 ≤ n) (hnb : n < aBig) (hno : (ou = 3 ∧ ne = 5) ∨ (ou = 5 ∧ ne = 3)) (hsd : (sta = 9 ∧ dra = 38) ∨ (sta = 38 ∧ dra = 9)) (hid : id < 2 ^ 32) (hw : way ≤ 3) (hl3 : 3 ≤ least) (hl8 : least ≤ 8) (hfl : fl < 16) (he : e ≤ 11) (hc1 : 1 ≤ cut) (hc2 : cut ≤ 8000) (hO : PkOk T) (hS : (bputs 12000 (some []) ((hdF fl e id (l).length) ++ (prS fl e cut way least ld l T).1)) ≠ none → S = (prS fl e cut way least ld l T).2) (F_h_0 : h 0 = .inr (10, [.ref 1, .ref ou, .ref ne, .ref 7, .long (lN id), .ref sta, .ref dra, .ref 67, .ref 81, .ref 189, .int (nI way), .int (nI least)])) (F_h_1 : h 1 = .inr (7, [.ref 2, .int (nI (l).length), .int 0, .long 0, .int 0])) (P_h_in : RowIs h 1 8000 (some l) 0 0) (P_h_co : RowIs h 7 8000 (some ld) 0 0) (P_h_st : StX h sta T) (P_h_dr : StZ h dra) (P_h_ou : RowIs h ou 12000 (some lo) 0 0) (P_h_ab : AbA h ab) (P_h_nx : RowIs h ne 12000 (bputs 12000 (some []) ((hdF fl e id (l).length) ++ (prS fl e cut way least ld l T).1)) 0 0) (P_h_pk : PkY h S) {Ψ : Option Value → aH → Prop} (k1 : 12000 < (prY fl e cut id way least ld l T).length → ∀ h', Fr h h' (fun j => j = 0 ∨ j = ne ∨ j = ne + 1 ∨ (67 ≤ j ∧ j ≤ 189)) → SPY h' ou ne sta dra id way least l lo ld T ab → Ψ (some (.int (-1))) (n, s, h')) (k2 : (prY fl e cut id way least ld l T).length ≤ 12000 → ∀ h', Fr h h' (fun j => j = 0 ∨ j = ne ∨ j = ne + 1 ∨ (67 ≤ j ∧ j ≤ 189)) → SPY h' ne ou sta dra id way least l (prY fl e cut id way least ld l T) ld T (prS fl e cut way least ld l T).2.2.2.2.2.2 → Ψ (some (.int (nI (prY fl e cut id way least ld l T).length))) (n, s, h')) : WX (lk tX11_press) (mM (d + 4)) Ψ 230 [(0, .ref 0), (1, .int (nI fl))] [] (n, s, h) := by
  have FR_h : Fr h h (fun j => j = 0 ∨ j = ne ∨ j = ne + 1 ∨ (67 ≤ j ∧ j ≤ 189)) := Fr.rf
  have hle := row_le P_h_in
  have t251 : ∀ hA : Nat → aE, Fr h hA (fun j => j = ne ∨ j = ne + 1) → RowIs hA ne 12000 (bputs 12000 (some []) (prY fl e cut id way least ld l T)) 0 0 → WX (lk tX11_press) (mM (d + 4)) Ψ 251 [(0, .ref 0), (1, .int (nI fl))] [] (n, s, hA) := by
    intro hA fA P_hA_nx
    have F_hA_0 : hA 0 = .inr (10, [.ref 1, .ref ou, .ref ne, .ref 7, .long (lN id), .ref sta, .ref dra, .ref 67, .ref 81, .ref 189, .int (nI way), .int (nI least)]) := (fA _ (by omega)).trans F_h_0
    have F_hA_1 : hA 1 = .inr (7, [.ref 2, .int (nI (l).length), .int 0, .long 0, .int 0]) := (fA _ (by omega)).trans F_h_1
    have P_hA_in : RowIs hA 1 8000 (some l) 0 0 := (P_h_in).zfr fA (by omega) (by omega)
    have P_hA_co : RowIs hA 7 8000 (some ld) 0 0 := (P_h_co).zfr fA (by omega) (by omega)
    have P_hA_st : StX hA sta T := (P_h_st).zfr fA (fun j h1 h2 => by omega)
    have P_hA_dr : StZ hA dra := (P_h_dr).zfr fA (fun j h1 h2 => by omega)
    have P_hA_ou : RowIs hA ou 12000 (some lo) 0 0 := (P_h_ou).zfr fA (by omega) (by omega)
    have P_hA_ab : AbA hA ab := (P_h_ab).zfr fA (by omega)
    have P_hA_pk : PkY hA S := (P_h_pk).zfr fA (fun j h1 h2 => by omega) (fun j h1 => by omega)
    have FR_hA : Fr h hA (fun j => j = 0 ∨ j = ne ∨ j = ne + 1 ∨ (67 ≤ j ∧ j ≤ 189)) := (fA).mono (fun j hj => by omega)
    obtain ⟨u_, sp_, F_hA_ne, hsp⟩ := row_sp P_hA_nx
    refine WX.s1 rfl rfl ?_
    refine WX.get1 (fs := [.ref 1, .ref ou, .ref ne, .ref 7, .long (lN id), .ref sta, .ref dra, .ref 67, .ref 81, .ref 189, .int (nI way), .int (nI least)]) rfl (by omega) (F_hA_0) rfl ?_
    refine WX.get1 (fs := [.ref (ne + 1), .int (nI u_), .int sp_, .long 0, .int 0]) rfl (by omega) (F_hA_ne) rfl ?_
    refine WX.if_ rfl (fun c_258 => ?_) (fun c_258 => ?_)
    · skip
      rw [show sp_ = 0 from c_258] at hsp F_hA_ne
      have hsm : (prY fl e cut id way least ld l T).length ≤ 12000 := by
        by_cases z : (prY fl e cut id way least ld l T).length ≤ 12000
        · exact z
        · rw [bputs_all, if_neg z] at hsp; exact absurd (show (0 : Int32) = 1 from hsp) (by decide)
      have ebf : (bputs 12000 (some []) (prY fl e cut id way least ld l T)) = some (prY fl e cut id way least ld l T) := by rw [bputs_all, if_pos hsm]
      rw [ebf] at P_hA_nx
      obtain rfl : S = (prS fl e cut way least ld l T).2 := hS (fun z => by
        have : (bputs 12000 (some []) (prY fl e cut id way least ld l T)) = none := by unfold prY; rw [← List.append_assoc, bputs_app, z, bputs_none]
        rw [ebf] at this; exact absurd this (by simp))
      have e0 := row_obj P_hA_nx
      rw [F_hA_ne] at e0
      obtain ⟨⟨cnt, F_hA_81⟩, pB, pC, ⟨g88, F_hA_88, h88⟩, pF⟩ := P_hA_pk
      obtain ⟨g89, F_hA_189, h89⟩ := idP P_hA_ab
      have hu : nI u_ = nI (prY fl e cut id way least ld l T).length := by
        have q := Sum.inr.inj e0
        have q2 := (Prod.mk.inj q).2
        simp only [List.cons.injEq, Value.int.injEq, Value.ref.injEq, true_and] at q2
        exact q2.1
      clear e0
      rw [hu] at F_hA_ne
      have P_hA_pr : PkRF hA (prS fl e cut way least ld l T).2 := PkY.sp ⟨⟨cnt, F_hA_81⟩, pB, pC, ⟨g88, F_hA_88, h88⟩, pF⟩
      clear pB pC pF
      refine WX.s1 rfl rfl ?_
      refine WX.get1 (fs := [.ref 1, .ref ou, .ref ne, .ref 7, .long (lN id), .ref sta, .ref dra, .ref 67, .ref 81, .ref 189, .int (nI way), .int (nI least)]) rfl (by omega) (F_hA_0) rfl ?_
      refine WX.get1 (fs := [.ref 82, .ref 89, .ref 108, .ref 135, .ref 162, .ref 86, .ref 87, .int cnt, .ref 88]) rfl (by omega) (F_hA_81) rfl ?_
      refine WX.s1 rfl rfl ?_
      refine WX.s1 rfl rfl ?_
      refine WX.get1 (fs := [.ref 1, .ref ou, .ref ne, .ref 7, .long (lN id), .ref sta, .ref dra, .ref 67, .ref 81, .ref 189, .int (nI way), .int (nI least)]) rfl (by omega) (F_hA_0) rfl ?_
      refine WX.s1 rfl rfl ?_
      refine WX.s1 rfl rfl ?_
      refine WX.copyN rfl (Nat.le_of_ble_eq_true rfl) (Or.inl (by omega)) (F_hA_88) (by omega) (F_hA_189) (p := 0) (q := 0) (c := 12) rfl rfl rfl (by decide) (by decide) (by decide) (by decide) (fun g278 h278 e_g278 e_h278 => ?_)
      have F_h278_0 : h278 0 = .inr (10, [.ref 1, .ref ou, .ref ne, .ref 7, .long (lN id), .ref sta, .ref dra, .ref 67, .ref 81, .ref 189, .int (nI way), .int (nI least)]) := by rw [e_h278, va_up_neq (by omega)]; exact F_hA_0
      have F_h278_1 : h278 1 = .inr (7, [.ref 2, .int (nI (l).length), .int 0, .long 0, .int 0]) := by rw [e_h278, va_up_neq (by omega)]; exact F_hA_1
      have F_h278_ne : h278 ne = .inr (7, [.ref (ne + 1), .int (nI (prY fl e cut id way least ld l T).length), .int 0, .long 0, .int 0]) := by rw [e_h278, va_up_neq (by omega)]; exact F_hA_ne
      have F_h278_81 : h278 81 = .inr (6, [.ref 82, .ref 89, .ref 108, .ref 135, .ref 162, .ref 86, .ref 87, .int cnt, .ref 88]) := by rw [e_h278, va_up_neq (by omega)]; exact F_hA_81
      have F_h278_88 : h278 88 = .inl (1, 12, .inl g88) := by rw [e_h278, va_up_neq (by omega)]; exact F_hA_88
      have F_h278_189 : h278 189 = .inl (1, 12, .inl g278) := by rw [e_h278]; exact va_up_eq
      have P_h278_in : RowIs h278 1 8000 (some l) 0 0 := (P_hA_in).zfr (Fr.of e_h278) (by omega) (by omega)
      have P_h278_co : RowIs h278 7 8000 (some ld) 0 0 := (P_hA_co).zfr (Fr.of e_h278) (by omega) (by omega)
      have P_h278_st : StX h278 sta T := (P_hA_st).zfr (Fr.of e_h278) (fun j h1 h2 => by omega)
      have P_h278_dr : StZ h278 dra := (P_hA_dr).zfr (Fr.of e_h278) (fun j h1 h2 => by omega)
      have P_h278_ou : RowIs h278 ou 12000 (some lo) 0 0 := (P_hA_ou).zfr (Fr.of e_h278) (by omega) (by omega)
      have P_h278_nx : RowIs h278 ne 12000 (some (prY fl e cut id way least ld l T)) 0 0 := (P_hA_nx).zfr (Fr.of e_h278) (by omega) (by omega)
      have P_h278_pr : PkRF h278 (prS fl e cut way least ld l T).2 := (P_hA_pr).zfr (Fr.of e_h278) (fun j h1 h2 => by omega) (fun j h1 => by omega)
      have FR_h278 : Fr h h278 (fun j => j = 0 ∨ j = ne ∨ j = ne + 1 ∨ (67 ≤ j ∧ j ≤ 189)) := (FR_hA).zup e_h278 (by first | exact rfl | exact Or.inl rfl | exact Or.inr rfl | exact ⟨by decide, by decide⟩ | decide | omega)
      clear F_hA_0 F_hA_1 F_hA_ne F_hA_81 F_hA_88 F_hA_189 P_hA_in P_hA_co P_hA_st P_hA_dr P_hA_ou P_hA_nx P_hA_pr FR_hA e_h278
      refine WX.s1 rfl rfl ?_
      refine WX.callC (vs := [.ref 0]) rfl rfl rfl (Nat.le_of_ble_eq_true rfl) (rcv_ok (by omega) F_h278_0) ?_
      refine x_bOut (d := d + 3) hn hno F_h278_0 F_h278_ne (fun h9 fr9 F_h9_0 => ?_)
      have FR_h9 : Fr h h9 (fun j => j = 0 ∨ j = ne ∨ j = ne + 1 ∨ (67 ≤ j ∧ j ≤ 189)) := (FR_h278).zsub fr9 (fun j hj => by omega)
      have e189 : h9 189 = .inl (1, 12, .inl g278) := (fr9 _ (by omega)).trans F_h278_189
      show WX _ _ _ 285 [(0, .ref 0), (1, .int (nI fl))] [.int (nI (prY fl e cut id way least ld l T).length)] (n, s, h9)
      refine WX.ret1 rfl (k2 hsm h9 FR_h9 ⟨F_h9_0, by omega, hsd, (P_h278_in).zfr fr9 (by omega) (by omega), (P_h278_nx).zfr fr9 (by omega) (by omega), ⟨_, _, _, (P_h278_ou).zfr fr9 (by omega) (by omega)⟩, (P_h278_co).zfr fr9 (by omega) (by omega), (P_h278_st).zfr fr9 (fun j h1 h2 => by omega), (P_h278_dr).zfr fr9 (fun j h1 h2 => by omega), ⟨_, PkR.toY (P_h278_pr.1.zfr fr9 (fun j h1 h2 _ => by omega) (fun j h1 => by omega)) (P_h278_pr.2.zfr fr9 (fun j h1 h2 => by omega))⟩, g278, e189, ?_⟩)
      intro q hq
      rw [e_g278]
      unfold va_cpy
      rw [if_pos ⟨Nat.zero_le _, by omega⟩, Nat.sub_zero, Nat.zero_add]
      exact h88 q hq
    · skip
      have hno2 := (hsp).yes c_258
      rw [bputs_all] at hno2
      have hbig : 12000 < (prY fl e cut id way least ld l T).length := by
        by_cases z : (prY fl e cut id way least ld l T).length ≤ 12000
        · rw [if_pos z] at hno2; exact absurd hno2 (by simp)
        · omega
      refine WX.s1 rfl rfl ?_
      exact WX.ret1 rfl (k1 hbig hA FR_hA ⟨F_hA_0, hno, hsd, P_hA_in, P_hA_ou, ⟨_, _, _, P_hA_nx⟩, P_hA_co, P_hA_st, P_hA_dr, ⟨S, P_hA_pk⟩, P_hA_ab⟩)
  refine WX.s1 rfl rfl ?_
  refine WX.s1 rfl rfl ?_
  refine WX.s1 (S' := [.int ((nI fl) &&& 1)]) rfl rfl ?_
  refine WX.if_ rfl (fun c_233 => ?_) (fun c_233 => ?_)
  · skip
    exact t251 h Fr.rf (by unfold prY; rw [if_neg (by have q := fl_1 fl hfl; have := (q).mp c_233; omega), List.append_nil]; exact P_h_nx)
  · skip
    refine WX.s1 rfl rfl ?_
    refine WX.get1 (fs := [.ref 1, .ref ou, .ref ne, .ref 7, .long (lN id), .ref sta, .ref dra, .ref 67, .ref 81, .ref 189, .int (nI way), .int (nI least)]) rfl (by omega) (F_h_0) rfl ?_
    refine WX.s1 rfl rfl ?_
    refine WX.get1 (fs := [.ref 1, .ref ou, .ref ne, .ref 7, .long (lN id), .ref sta, .ref dra, .ref 67, .ref 81, .ref 189, .int (nI way), .int (nI least)]) rfl (by omega) (F_h_0) rfl ?_
    refine WX.callC (vs := [.ref 1]) rfl rfl rfl (Nat.le_of_ble_eq_true rfl) rfl ?_
    refine x_sum (d := d) hn F_h_1 P_h_in ?_
    show WX _ _ _ 247 [(0, .ref 0), (1, .int (nI fl))] [.long (wsF l), .ref ne] (n, s, h)
    refine WX.s1 rfl rfl ?_
    refine WX.callC (vs := [.ref ne, .long (wsF l), .int 4]) rfl rfl rfl (Nat.le_of_ble_eq_true rfl) ((P_h_nx).rcv (by omega)) ?_
    refine w_putNumber (d := d + 2) (x := wsF l) (m := 4) (by omega) P_h_nx (by decide) (by decide) (fun h248 fr248 P_h248_nx0 => ?_)
    have F_h248_0 : h248 0 = .inr (10, [.ref 1, .ref ou, .ref ne, .ref 7, .long (lN id), .ref sta, .ref dra, .ref 67, .ref 81, .ref 189, .int (nI way), .int (nI least)]) := (fr248 _ (by omega)).trans F_h_0
    have F_h248_1 : h248 1 = .inr (7, [.ref 2, .int (nI (l).length), .int 0, .long 0, .int 0]) := (fr248 _ (by omega)).trans F_h_1
    have P_h248_in : RowIs h248 1 8000 (some l) 0 0 := (P_h_in).zfr fr248 (by omega) (by omega)
    have P_h248_co : RowIs h248 7 8000 (some ld) 0 0 := (P_h_co).zfr fr248 (by omega) (by omega)
    have P_h248_st : StX h248 sta T := (P_h_st).zfr fr248 (fun j h1 h2 => by omega)
    have P_h248_dr : StZ h248 dra := (P_h_dr).zfr fr248 (fun j h1 h2 => by omega)
    have P_h248_ou : RowIs h248 ou 12000 (some lo) 0 0 := (P_h_ou).zfr fr248 (by omega) (by omega)
    have P_h248_ab : AbA h248 ab := (P_h_ab).zfr fr248 (by omega)
    have P_h248_pk : PkY h248 S := (P_h_pk).zfr fr248 (fun j h1 h2 => by omega) (fun j h1 => by omega)
    have FR_h248 : Fr h h248 (fun j => j = 0 ∨ j = ne ∨ j = ne + 1 ∨ (67 ≤ j ∧ j ≤ 189)) := (FR_h).zsub fr248 (fun j hj => by omega)
    show WX _ _ _ 251 [(0, .ref 0), (1, .int (nI fl))] [] (n, s, h248)
    exact t251 h248 fr248 (by unfold prY; rw [if_pos (by have q := fl_1 fl hfl; have := mt (q).mpr c_233; omega), ← List.append_assoc, bputs_app]; exact P_h248_nx0)
