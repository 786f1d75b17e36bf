/-! the packer begun from a start -/
def StX (h : Nat → aE) (q : Nat) (T : PkS) : Prop := h q = .inr (9, [.ref (q + 1), .ref (q + 3), .ref (q + 7), .ref (q + 14), .ref (q + 21), .ref (q + 28)]) ∧ RowIs h (q + 1) 0 (some []) 0 0 ∧ CoH h (q + 3) T.1 ∧ HeldT h (q + 7) 35 512 T.2.1 ∧ HeldT h (q + 14) 31 256 T.2.2.1 ∧ HeldT h (q + 21) 52 512 T.2.2.2.1 ∧ LatA h (q + 28) T.2.2.2.2.1
theorem StX.zfr {h h1 : Nat → aE} {A : Nat → Prop} {q : Nat} {T : PkS} (r : StX h q T) (f : Fr h h1 A) (z : ∀ x, q ≤ x → x ≤ q + 28 → ¬ A x) : StX h1 q T := by
  obtain ⟨a, b, c, d, e, g, i⟩ := r
  exact ⟨(f _ (z _ (by omega) (by omega))).trans a, (b).zfr f (z _ (by omega) (by omega)) (z _ (by omega) (by omega)), (c).zfr f (fun x h1 h2 => z _ (by omega) (by omega)), (d).zfr f (fun x h1 h2 => z _ (by omega) (by omega)), (e).zfr f (fun x h1 h2 => z _ (by omega) (by omega)), (g).zfr f (fun x h1 h2 => z _ (by omega) (by omega)), (i).zfr f (z _ (by omega) (by omega))⟩
def PkY (h : Nat → aE) (S : PkS) : Prop := (∃ cnt, PaX h cnt) ∧ LaX h ∧ LatA h 86 S.2.2.2.2.1 ∧ TlA h S.2.2.2.2.2 ∧ FiZ h ∧ LiX h S.1 ∧ DX h ∧ CX1 h S.2.1 ∧ CX2 h S.2.2.1 ∧ CX3 h S.2.2.2.1
theorem PkX.toY {h : Nat → aE} {D H : Nat → Nat} {U way least win : Nat} {S : PkS} (r : PkX h D H U way least win S) : PkY h S := by
  obtain ⟨a, b, c, d, e, g⟩ := r
  exact ⟨a, b, c, d, (e).toZ, g⟩
theorem PkY.zfr {h h1 : Nat → aE} {A : Nat → Prop} {S : PkS} (r : PkY h S) (f : Fr h h1 A) (q : ∀ x, 67 ≤ x → x ≤ 188 → ¬ A x) (q2 : ∀ x, aBig ≤ x → ¬ A x) : PkY h1 S := by
  obtain ⟨⟨cnt, a⟩, ⟨ar, b⟩, c, d, e, g, i, j, k, l⟩ := r
  exact ⟨⟨cnt, (f _ (q _ (by omega) (by omega))).trans a⟩, ⟨ar, (f _ (q _ (by omega) (by omega))).trans b⟩, (c).zfr f (q _ (by omega) (by omega)), (d).zfr f (q _ (by omega) (by omega)), (e).zfr f (fun x h1 h2 => q _ (by omega) (by omega)), (g).zfr f (fun x h1 h2 => q _ (by omega) (by omega)), (i).zfr f (fun x h1 h2 => q _ (by omega) (by omega)), (j).zfr f (fun x h1 h2 => q _ (by omega) (by omega)) (q2 _ (Nat.le_add_right _ _)) (q2 _ (Nat.le_add_right _ _)), (k).zfr f (fun x h1 h2 => q _ (by omega) (by omega)) (q2 _ (Nat.le_add_right _ _)) (q2 _ (Nat.le_add_right _ _)), (l).zfr f (fun x h1 h2 => q _ (by omega) (by omega)) (q2 _ (Nat.le_add_right _ _)) (q2 _ (Nat.le_add_right _ _))⟩
theorem va_cpy3 {f g : Nat → Int32} {i : Nat} (h : i < 3) : va_cpy f g 0 0 3 i = f i := by
  unfold va_cpy
  rw [if_pos ⟨Nat.zero_le _, by omega⟩, Nat.sub_zero, Nat.zero_add]
theorem LaX.zfr {h h1 : Nat → aE} {A : Nat → Prop} (r : LaX h) (f : Fr h h1 A) (q : ¬ A 87) : LaX h1 := by
  obtain ⟨a, b⟩ := r
  exact ⟨a, (f _ q).trans b⟩
set_option maxRecDepth 20000 in
theorem x_pBegin {d n s : Nat} {h : Nat → aE} {q : Nat} {S T : PkS} {cnt : Int32} {lA tA sA : Nat → Int32} (hn : 190 ≤ n) (hq : q + 28 < 67) (hnb : n < aBig) (hT1 : TbO 35 512 T.2.1) (hT2 : TbO 31 256 T.2.2.1) (hT3 : TbO 52 512 T.2.2.2.1) (hs : sA 0 = nI T.2.2.2.2.1.1 ∧ sA 1 = nI T.2.2.2.2.1.2.1 ∧ sA 2 = nI T.2.2.2.2.1.2.2) (F_h_81 : h 81 = .inr (6, [.ref 82, .ref 89, .ref 108, .ref 135, .ref 162, .ref 86, .ref 87, .int cnt, .ref 88])) (F_h_q : h q = .inr (9, [.ref (q + 1), .ref (q + 3), .ref (q + 7), .ref (q + 14), .ref (q + 21), .ref (q + 28)])) (F_h_86 : h 86 = .inl (1, 3, .inl lA)) (F_h_88 : h 88 = .inl (1, 12, .inl tA)) (F_h__q_28_ : h (q + 28) = .inl (1, 3, .inl sA)) (P_h_co : CoH h (q + 3) T.1) (P_h_s1 : HeldT h (q + 7) 35 512 T.2.1) (P_h_s2 : HeldT h (q + 14) 31 256 T.2.2.1) (P_h_s3 : HeldT h (q + 21) 52 512 T.2.2.2.1) (P_h_la : LaX h) (P_h_fi : FiZ h) (P_h_dx : DX h) (P_h_li : LiX h S.1) (P_h_c1 : CX1 h S.2.1) (P_h_c2 : CX2 h S.2.2.1) (P_h_c3 : CX3 h S.2.2.2.1) {Ψ : Option Value → aH → Prop} (kk : ∀ h', Fr h h' (fun j => 86 ≤ j ∧ j ≤ 188) → PkY h' (pkNt T (fun _ => 0)) → Ψ none (n, s, h')) : WO (mM (d + 3)) 69 [.ref 81, .ref q] (n, s, h) Ψ := by
  refine WO.of (Nat.le_of_ble_eq_true rfl) ?_
  have FR_h : Fr h h (fun j => 86 ≤ j ∧ j ≤ 188) := Fr.rf
  show WX (lk tX6_begin) (mM (d + 2)) Ψ 0 [(0, .ref 81), (1, .ref q)] [] (n, s, h)
  refine WX.s1 rfl rfl ?_
  refine WX.get1 (fs := [.ref 82, .ref 89, .ref 108, .ref 135, .ref 162, .ref 86, .ref 87, .int cnt, .ref 88]) rfl (ltN hn (by decide)) (F_h_81) rfl ?_
  refine WX.s1 rfl rfl ?_
  refine WX.get1 (fs := [.ref (q + 1), .ref (q + 3), .ref (q + 7), .ref (q + 14), .ref (q + 21), .ref (q + 28)]) rfl (by omega) (F_h_q) rfl ?_
  obtain ⟨u_, ki_, by_, sh_, be_, yA_, cA_, f1, f2, f3, f4, f5, f6, f7⟩ := id P_h_li
  refine WX.callC (vs := [.ref 89, .ref (q + 3)]) rfl rfl rfl (Nat.le_of_ble_eq_true rfl) (rcv_ok (by omega) f1) ?_
  refine x_lBegin (d := d) hn (by omega) (f4).toX P_h_co f1 (fun h8 fr8 g8 => ?_)
  have P_h8_li : LiX h8 T.1 := ⟨u_, ki_, by_, sh_, be_, yA_, cA_, (fr8 _ (by omega)).trans f1, (fr8 _ (by omega)).trans f2, (fr8 _ (by omega)).trans f3, g8, (f5).zfr fr8 (fun j h1 h2 => by omega), (f6).zfr fr8 (fun j h1 h2 => by omega), (f7).zfr fr8 (by omega) (by omega)⟩
  clear f1 f2 f3 f4 f5 f6 f7
  have F_h8_81 : h8 81 = .inr (6, [.ref 82, .ref 89, .ref 108, .ref 135, .ref 162, .ref 86, .ref 87, .int cnt, .ref 88]) := (fr8 _ (by first | decide | omega)).trans F_h_81
  have F_h8_q : h8 q = .inr (9, [.ref (q + 1), .ref (q + 3), .ref (q + 7), .ref (q + 14), .ref (q + 21), .ref (q + 28)]) := (fr8 _ (by omega)).trans F_h_q
  have F_h8_86 : h8 86 = .inl (1, 3, .inl lA) := (fr8 _ (by first | decide | omega)).trans F_h_86
  have F_h8_88 : h8 88 = .inl (1, 12, .inl tA) := (fr8 _ (by first | decide | omega)).trans F_h_88
  have F_h8__q_28_ : h8 (q + 28) = .inl (1, 3, .inl sA) := (fr8 _ (by omega)).trans F_h__q_28_
  have P_h8_co : CoH h8 (q + 3) T.1 := (P_h_co).zfr fr8 (fun j h1 h2 => by omega)
  have P_h8_s1 : HeldT h8 (q + 7) 35 512 T.2.1 := (P_h_s1).zfr fr8 (fun j h1 h2 => by omega)
  have P_h8_s2 : HeldT h8 (q + 14) 31 256 T.2.2.1 := (P_h_s2).zfr fr8 (fun j h1 h2 => by omega)
  have P_h8_s3 : HeldT h8 (q + 21) 52 512 T.2.2.2.1 := (P_h_s3).zfr fr8 (fun j h1 h2 => by omega)
  have P_h8_la : LaX h8 := (P_h_la).zfr fr8 (by omega)
  have P_h8_fi : FiZ h8 := (P_h_fi).zfr fr8 (fun j h1 h2 => by omega)
  have P_h8_dx : DX h8 := (P_h_dx).zfr fr8 (fun j h1 h2 => by omega)
  have P_h8_c1 : CX1 h8 S.2.1 := (P_h_c1).zfr fr8 (fun j h1 h2 => by omega) (by omega) (by omega)
  have P_h8_c2 : CX2 h8 S.2.2.1 := (P_h_c2).zfr fr8 (fun j h1 h2 => by omega) (by omega) (by omega)
  have P_h8_c3 : CX3 h8 S.2.2.2.1 := (P_h_c3).zfr fr8 (fun j h1 h2 => by omega) (by omega) (by omega)
  have FR_h8 : Fr h h8 (fun j => 86 ≤ j ∧ j ≤ 188) := (FR_h).zsub fr8 (fun j hj => by omega)
  show WX _ _ _ 11 [(0, .ref 81), (1, .ref q)] [] (n, s, h8)
  refine WX.s1 rfl rfl ?_
  refine WX.get1 (fs := [.ref 82, .ref 89, .ref 108, .ref 135, .ref 162, .ref 86, .ref 87, .int cnt, .ref 88]) rfl (ltN hn (by decide)) (F_h8_81) rfl ?_
  refine WX.s1 rfl rfl ?_
  refine WX.get1 (fs := [.ref (q + 1), .ref (q + 3), .ref (q + 7), .ref (q + 14), .ref (q + 21), .ref (q + 28)]) rfl (by omega) (F_h8_q) rfl ?_
  obtain ⟨cho, ln, di, ad, mo, bi, ob, sta, yA, vA, cA, f1, f2, f3, f4, f5, f6, f7, f8, f9⟩ := id P_h8_c1
  refine WX.callC (vs := [.ref 108, .ref (q + 7)]) rfl rfl rfl (Nat.le_of_ble_eq_true rfl) (rcv_ok (by omega) f1) ?_
  refine x_kBegin (d := d) (c := 108) (q := q + 7) (l := 35) (M := 512) (by omega) (by omega) (by decide) (by decide) hT1 (f7).toX P_h8_s1 f1 (fun h19 fr19 g8 => ?_)
  have P_h19_c1 : CX1 h19 T.2.1 := ⟨cho, ln, di, ad, mo, bi, ob, sta, yA, vA, cA, (fr19 _ (by omega)).trans f1, (fr19 _ (by omega)).trans f2, (fr19 _ (by omega)).trans f3, (fr19 _ (by omega)).trans f4, (f5).zfr fr19 (by omega) (by omega), (f6).zfr fr19 (fun j h1 h2 => by omega), g8, (f8).zfr fr19 (fun j h1 h2 => by omega), (f9).zfr fr19 (by omega) (by omega)⟩
  clear f1 f2 f3 f4 f5 f6 f7 f8 f9 g8
  have F_h19_81 : h19 81 = .inr (6, [.ref 82, .ref 89, .ref 108, .ref 135, .ref 162, .ref 86, .ref 87, .int cnt, .ref 88]) := (fr19 _ (by first | decide | omega)).trans F_h8_81
  have F_h19_q : h19 q = .inr (9, [.ref (q + 1), .ref (q + 3), .ref (q + 7), .ref (q + 14), .ref (q + 21), .ref (q + 28)]) := (fr19 _ (by omega)).trans F_h8_q
  have F_h19_86 : h19 86 = .inl (1, 3, .inl lA) := (fr19 _ (by first | decide | omega)).trans F_h8_86
  have F_h19_88 : h19 88 = .inl (1, 12, .inl tA) := (fr19 _ (by first | decide | omega)).trans F_h8_88
  have F_h19__q_28_ : h19 (q + 28) = .inl (1, 3, .inl sA) := (fr19 _ (by omega)).trans F_h8__q_28_
  have P_h19_co : CoH h19 (q + 3) T.1 := (P_h8_co).zfr fr19 (fun j h1 h2 => by omega)
  have P_h19_s1 : HeldT h19 (q + 7) 35 512 T.2.1 := (P_h8_s1).zfr fr19 (fun j h1 h2 => by omega)
  have P_h19_s2 : HeldT h19 (q + 14) 31 256 T.2.2.1 := (P_h8_s2).zfr fr19 (fun j h1 h2 => by omega)
  have P_h19_s3 : HeldT h19 (q + 21) 52 512 T.2.2.2.1 := (P_h8_s3).zfr fr19 (fun j h1 h2 => by omega)
  have P_h19_la : LaX h19 := (P_h8_la).zfr fr19 (by omega)
  have P_h19_fi : FiZ h19 := (P_h8_fi).zfr fr19 (fun j h1 h2 => by omega)
  have P_h19_dx : DX h19 := (P_h8_dx).zfr fr19 (fun j h1 h2 => by omega)
  have P_h19_li : LiX h19 T.1 := (P_h8_li).zfr fr19 (fun j h1 h2 => by omega)
  have P_h19_c2 : CX2 h19 S.2.2.1 := (P_h8_c2).zfr fr19 (fun j h1 h2 => by omega) (by omega) (by omega)
  have P_h19_c3 : CX3 h19 S.2.2.2.1 := (P_h8_c3).zfr fr19 (fun j h1 h2 => by omega) (by omega) (by omega)
  have FR_h19 : Fr h h19 (fun j => 86 ≤ j ∧ j ≤ 188) := (FR_h8).zsub fr19 (fun j hj => by omega)
  show WX _ _ _ 22 [(0, .ref 81), (1, .ref q)] [] (n, s, h19)
  refine WX.s1 rfl rfl ?_
  refine WX.get1 (fs := [.ref 82, .ref 89, .ref 108, .ref 135, .ref 162, .ref 86, .ref 87, .int cnt, .ref 88]) rfl (ltN hn (by decide)) (F_h19_81) rfl ?_
  refine WX.s1 rfl rfl ?_
  refine WX.get1 (fs := [.ref (q + 1), .ref (q + 3), .ref (q + 7), .ref (q + 14), .ref (q + 21), .ref (q + 28)]) rfl (by omega) (F_h19_q) rfl ?_
  obtain ⟨cho, ln, di, ad, mo, bi, ob, sta, yA, vA, cA, f1, f2, f3, f4, f5, f6, f7, f8, f9⟩ := id P_h19_c2
  refine WX.callC (vs := [.ref 135, .ref (q + 14)]) rfl rfl rfl (Nat.le_of_ble_eq_true rfl) (rcv_ok (by omega) f1) ?_
  refine x_kBegin (d := d) (c := 135) (q := q + 14) (l := 31) (M := 256) (by omega) (by omega) (by decide) (by decide) hT2 (f7).toX P_h19_s2 f1 (fun h30 fr30 g8 => ?_)
  have P_h30_c2 : CX2 h30 T.2.2.1 := ⟨cho, ln, di, ad, mo, bi, ob, sta, yA, vA, cA, (fr30 _ (by omega)).trans f1, (fr30 _ (by omega)).trans f2, (fr30 _ (by omega)).trans f3, (fr30 _ (by omega)).trans f4, (f5).zfr fr30 (by omega) (by omega), (f6).zfr fr30 (fun j h1 h2 => by omega), g8, (f8).zfr fr30 (fun j h1 h2 => by omega), (f9).zfr fr30 (by omega) (by omega)⟩
  clear f1 f2 f3 f4 f5 f6 f7 f8 f9 g8
  have F_h30_81 : h30 81 = .inr (6, [.ref 82, .ref 89, .ref 108, .ref 135, .ref 162, .ref 86, .ref 87, .int cnt, .ref 88]) := (fr30 _ (by first | decide | omega)).trans F_h19_81
  have F_h30_q : h30 q = .inr (9, [.ref (q + 1), .ref (q + 3), .ref (q + 7), .ref (q + 14), .ref (q + 21), .ref (q + 28)]) := (fr30 _ (by omega)).trans F_h19_q
  have F_h30_86 : h30 86 = .inl (1, 3, .inl lA) := (fr30 _ (by first | decide | omega)).trans F_h19_86
  have F_h30_88 : h30 88 = .inl (1, 12, .inl tA) := (fr30 _ (by first | decide | omega)).trans F_h19_88
  have F_h30__q_28_ : h30 (q + 28) = .inl (1, 3, .inl sA) := (fr30 _ (by omega)).trans F_h19__q_28_
  have P_h30_co : CoH h30 (q + 3) T.1 := (P_h19_co).zfr fr30 (fun j h1 h2 => by omega)
  have P_h30_s1 : HeldT h30 (q + 7) 35 512 T.2.1 := (P_h19_s1).zfr fr30 (fun j h1 h2 => by omega)
  have P_h30_s2 : HeldT h30 (q + 14) 31 256 T.2.2.1 := (P_h19_s2).zfr fr30 (fun j h1 h2 => by omega)
  have P_h30_s3 : HeldT h30 (q + 21) 52 512 T.2.2.2.1 := (P_h19_s3).zfr fr30 (fun j h1 h2 => by omega)
  have P_h30_la : LaX h30 := (P_h19_la).zfr fr30 (by omega)
  have P_h30_fi : FiZ h30 := (P_h19_fi).zfr fr30 (fun j h1 h2 => by omega)
  have P_h30_dx : DX h30 := (P_h19_dx).zfr fr30 (fun j h1 h2 => by omega)
  have P_h30_li : LiX h30 T.1 := (P_h19_li).zfr fr30 (fun j h1 h2 => by omega)
  have P_h30_c1 : CX1 h30 T.2.1 := (P_h19_c1).zfr fr30 (fun j h1 h2 => by omega) (by omega) (by omega)
  have P_h30_c3 : CX3 h30 S.2.2.2.1 := (P_h19_c3).zfr fr30 (fun j h1 h2 => by omega) (by omega) (by omega)
  have FR_h30 : Fr h h30 (fun j => 86 ≤ j ∧ j ≤ 188) := (FR_h19).zsub fr30 (fun j hj => by omega)
  show WX _ _ _ 33 [(0, .ref 81), (1, .ref q)] [] (n, s, h30)
  refine WX.s1 rfl rfl ?_
  refine WX.get1 (fs := [.ref 82, .ref 89, .ref 108, .ref 135, .ref 162, .ref 86, .ref 87, .int cnt, .ref 88]) rfl (ltN hn (by decide)) (F_h30_81) rfl ?_
  refine WX.s1 rfl rfl ?_
  refine WX.get1 (fs := [.ref (q + 1), .ref (q + 3), .ref (q + 7), .ref (q + 14), .ref (q + 21), .ref (q + 28)]) rfl (by omega) (F_h30_q) rfl ?_
  obtain ⟨cho, ln, di, ad, mo, bi, ob, sta, yA, vA, cA, f1, f2, f3, f4, f5, f6, f7, f8, f9⟩ := id P_h30_c3
  refine WX.callC (vs := [.ref 162, .ref (q + 21)]) rfl rfl rfl (Nat.le_of_ble_eq_true rfl) (rcv_ok (by omega) f1) ?_
  refine x_kBegin (d := d) (c := 162) (q := q + 21) (l := 52) (M := 512) (by omega) (by omega) (by decide) (by decide) hT3 (f7).toX P_h30_s3 f1 (fun h41 fr41 g8 => ?_)
  have P_h41_c3 : CX3 h41 T.2.2.2.1 := ⟨cho, ln, di, ad, mo, bi, ob, sta, yA, vA, cA, (fr41 _ (by omega)).trans f1, (fr41 _ (by omega)).trans f2, (fr41 _ (by omega)).trans f3, (fr41 _ (by omega)).trans f4, (f5).zfr fr41 (by omega) (by omega), (f6).zfr fr41 (fun j h1 h2 => by omega), g8, (f8).zfr fr41 (fun j h1 h2 => by omega), (f9).zfr fr41 (by omega) (by omega)⟩
  clear f1 f2 f3 f4 f5 f6 f7 f8 f9 g8
  have F_h41_81 : h41 81 = .inr (6, [.ref 82, .ref 89, .ref 108, .ref 135, .ref 162, .ref 86, .ref 87, .int cnt, .ref 88]) := (fr41 _ (by first | decide | omega)).trans F_h30_81
  have F_h41_q : h41 q = .inr (9, [.ref (q + 1), .ref (q + 3), .ref (q + 7), .ref (q + 14), .ref (q + 21), .ref (q + 28)]) := (fr41 _ (by omega)).trans F_h30_q
  have F_h41_86 : h41 86 = .inl (1, 3, .inl lA) := (fr41 _ (by first | decide | omega)).trans F_h30_86
  have F_h41_88 : h41 88 = .inl (1, 12, .inl tA) := (fr41 _ (by first | decide | omega)).trans F_h30_88
  have F_h41__q_28_ : h41 (q + 28) = .inl (1, 3, .inl sA) := (fr41 _ (by omega)).trans F_h30__q_28_
  have P_h41_co : CoH h41 (q + 3) T.1 := (P_h30_co).zfr fr41 (fun j h1 h2 => by omega)
  have P_h41_s1 : HeldT h41 (q + 7) 35 512 T.2.1 := (P_h30_s1).zfr fr41 (fun j h1 h2 => by omega)
  have P_h41_s2 : HeldT h41 (q + 14) 31 256 T.2.2.1 := (P_h30_s2).zfr fr41 (fun j h1 h2 => by omega)
  have P_h41_s3 : HeldT h41 (q + 21) 52 512 T.2.2.2.1 := (P_h30_s3).zfr fr41 (fun j h1 h2 => by omega)
  have P_h41_la : LaX h41 := (P_h30_la).zfr fr41 (by omega)
  have P_h41_fi : FiZ h41 := (P_h30_fi).zfr fr41 (fun j h1 h2 => by omega)
  have P_h41_dx : DX h41 := (P_h30_dx).zfr fr41 (fun j h1 h2 => by omega)
  have P_h41_li : LiX h41 T.1 := (P_h30_li).zfr fr41 (fun j h1 h2 => by omega)
  have P_h41_c1 : CX1 h41 T.2.1 := (P_h30_c1).zfr fr41 (fun j h1 h2 => by omega) (by omega) (by omega)
  have P_h41_c2 : CX2 h41 T.2.2.1 := (P_h30_c2).zfr fr41 (fun j h1 h2 => by omega) (by omega) (by omega)
  have FR_h41 : Fr h h41 (fun j => 86 ≤ j ∧ j ≤ 188) := (FR_h30).zsub fr41 (fun j hj => by omega)
  show WX _ _ _ 44 [(0, .ref 81), (1, .ref q)] [] (n, s, h41)
  refine WX.s1 rfl rfl ?_
  refine WX.get1 (fs := [.ref (q + 1), .ref (q + 3), .ref (q + 7), .ref (q + 14), .ref (q + 21), .ref (q + 28)]) rfl (by omega) (F_h41_q) rfl ?_
  refine WX.s1 rfl rfl ?_
  refine WX.s1 rfl rfl ?_
  refine WX.get1 (fs := [.ref 82, .ref 89, .ref 108, .ref 135, .ref 162, .ref 86, .ref 87, .int cnt, .ref 88]) rfl (ltN hn (by decide)) (F_h41_81) rfl ?_
  refine WX.s1 rfl rfl ?_
  refine WX.s1 rfl rfl ?_
  refine WX.get1 (fs := [.ref 82, .ref 89, .ref 108, .ref 135, .ref 162, .ref 86, .ref 87, .int cnt, .ref 88]) rfl (ltN hn (by decide)) (F_h41_81) rfl ?_
  refine WX.len1 rfl (Or.inl ⟨ltN hn (by decide), by decide⟩) (F_h41_86) ?_
  refine WX.copyN rfl (Nat.le_of_ble_eq_true rfl) (Or.inl (by omega)) (F_h41__q_28_) (ltN hn (by decide)) (F_h41_86) (p := 0) (q := 0) (c := 3) rfl rfl rfl (by decide) (by decide) (by decide) (by decide) (fun g59 h59 e_g59 e_h59 => ?_)
  have F_h59_81 : h59 81 = .inr (6, [.ref 82, .ref 89, .ref 108, .ref 135, .ref 162, .ref 86, .ref 87, .int cnt, .ref 88]) := by rw [e_h59, va_up_neq (by decide)]; exact F_h41_81
  have F_h59_q : h59 q = .inr (9, [.ref (q + 1), .ref (q + 3), .ref (q + 7), .ref (q + 14), .ref (q + 21), .ref (q + 28)]) := by rw [e_h59, va_up_neq (by omega)]; exact F_h41_q
  have F_h59_86 : h59 86 = .inl (1, 3, .inl g59) := by rw [e_h59]; exact va_up_eq
  have F_h59_88 : h59 88 = .inl (1, 12, .inl tA) := by rw [e_h59, va_up_neq (by decide)]; exact F_h41_88
  have F_h59__q_28_ : h59 (q + 28) = .inl (1, 3, .inl sA) := by rw [e_h59, va_up_neq (by omega)]; exact F_h41__q_28_
  have P_h59_co : CoH h59 (q + 3) T.1 := (P_h41_co).zfr (Fr.of e_h59) (fun j h1 h2 => by omega)
  have P_h59_s1 : HeldT h59 (q + 7) 35 512 T.2.1 := (P_h41_s1).zfr (Fr.of e_h59) (fun j h1 h2 => by omega)
  have P_h59_s2 : HeldT h59 (q + 14) 31 256 T.2.2.1 := (P_h41_s2).zfr (Fr.of e_h59) (fun j h1 h2 => by omega)
  have P_h59_s3 : HeldT h59 (q + 21) 52 512 T.2.2.2.1 := (P_h41_s3).zfr (Fr.of e_h59) (fun j h1 h2 => by omega)
  have P_h59_la : LaX h59 := (P_h41_la).zfr (Fr.of e_h59) (by omega)
  have P_h59_fi : FiZ h59 := (P_h41_fi).zfr (Fr.of e_h59) (fun j h1 h2 => by omega)
  have P_h59_dx : DX h59 := (P_h41_dx).zfr (Fr.of e_h59) (fun j h1 h2 => by omega)
  have P_h59_li : LiX h59 T.1 := (P_h41_li).zfr (Fr.of e_h59) (fun j h1 h2 => by omega)
  have P_h59_c1 : CX1 h59 T.2.1 := (P_h41_c1).zfr (Fr.of e_h59) (fun j h1 h2 => by omega) (by omega) (by omega)
  have P_h59_c2 : CX2 h59 T.2.2.1 := (P_h41_c2).zfr (Fr.of e_h59) (fun j h1 h2 => by omega) (by omega) (by omega)
  have P_h59_c3 : CX3 h59 T.2.2.2.1 := (P_h41_c3).zfr (Fr.of e_h59) (fun j h1 h2 => by omega) (by omega) (by omega)
  have FR_h59 : Fr h h59 (fun j => 86 ≤ j ∧ j ≤ 188) := (FR_h41).zup e_h59 (by first | exact rfl | exact Or.inl rfl | exact Or.inr rfl | exact ⟨by decide, by decide⟩ | decide | omega)
  clear F_h41_81 F_h41_q F_h41_86 F_h41_88 F_h41__q_28_ P_h41_co P_h41_s1 P_h41_s2 P_h41_s3 P_h41_la P_h41_fi P_h41_dx P_h41_li P_h41_c1 P_h41_c2 P_h41_c3 FR_h41 e_h59
  refine WX.s1 rfl rfl ?_
  refine WX.get1 (fs := [.ref 82, .ref 89, .ref 108, .ref 135, .ref 162, .ref 86, .ref 87, .int cnt, .ref 88]) rfl (ltN hn (by decide)) (F_h59_81) rfl ?_
  refine WX.s1 rfl rfl ?_
  refine WX.callC (vs := [.ref 88, .int 0]) rfl rfl rfl (Nat.le_of_ble_eq_true rfl) rfl ?_
  refine w_fill (d := d + 1) (by omega) F_h59_88 (by decide) (fun h67 gF fr67 F_h67_88 hgF => ?_)
  have F_h67_81 : h67 81 = .inr (6, [.ref 82, .ref 89, .ref 108, .ref 135, .ref 162, .ref 86, .ref 87, .int cnt, .ref 88]) := (fr67 _ (by first | decide | omega)).trans F_h59_81
  have F_h67_q : h67 q = .inr (9, [.ref (q + 1), .ref (q + 3), .ref (q + 7), .ref (q + 14), .ref (q + 21), .ref (q + 28)]) := (fr67 _ (by omega)).trans F_h59_q
  have F_h67_86 : h67 86 = .inl (1, 3, .inl g59) := (fr67 _ (by first | decide | omega)).trans F_h59_86
  have F_h67__q_28_ : h67 (q + 28) = .inl (1, 3, .inl sA) := (fr67 _ (by omega)).trans F_h59__q_28_
  have P_h67_co : CoH h67 (q + 3) T.1 := (P_h59_co).zfr fr67 (fun j h1 h2 => by omega)
  have P_h67_s1 : HeldT h67 (q + 7) 35 512 T.2.1 := (P_h59_s1).zfr fr67 (fun j h1 h2 => by omega)
  have P_h67_s2 : HeldT h67 (q + 14) 31 256 T.2.2.1 := (P_h59_s2).zfr fr67 (fun j h1 h2 => by omega)
  have P_h67_s3 : HeldT h67 (q + 21) 52 512 T.2.2.2.1 := (P_h59_s3).zfr fr67 (fun j h1 h2 => by omega)
  have P_h67_la : LaX h67 := (P_h59_la).zfr fr67 (by omega)
  have P_h67_fi : FiZ h67 := (P_h59_fi).zfr fr67 (fun j h1 h2 => by omega)
  have P_h67_dx : DX h67 := (P_h59_dx).zfr fr67 (fun j h1 h2 => by omega)
  have P_h67_li : LiX h67 T.1 := (P_h59_li).zfr fr67 (fun j h1 h2 => by omega)
  have P_h67_c1 : CX1 h67 T.2.1 := (P_h59_c1).zfr fr67 (fun j h1 h2 => by omega) (by omega) (by omega)
  have P_h67_c2 : CX2 h67 T.2.2.1 := (P_h59_c2).zfr fr67 (fun j h1 h2 => by omega) (by omega) (by omega)
  have P_h67_c3 : CX3 h67 T.2.2.2.1 := (P_h59_c3).zfr fr67 (fun j h1 h2 => by omega) (by omega) (by omega)
  have FR_h67 : Fr h h67 (fun j => 86 ≤ j ∧ j ≤ 188) := (FR_h59).zsub fr67 (fun j hj => by first | exact hj | exact Or.inl hj | exact Or.inr hj | omega)
  show WX _ _ _ 70 [(0, .ref 81), (1, .ref q)] [] (n, s, h67)
  refine WX.ret0 rfl (kk h67 FR_h67 ⟨⟨cnt, F_h67_81⟩, P_h67_la, ⟨g59, F_h67_86, ?_⟩, ⟨gF, F_h67_88, fun q hq => hgF q hq⟩, P_h67_fi, P_h67_li, P_h67_dx, P_h67_c1, P_h67_c2, P_h67_c3⟩)
  rw [e_g59, va_cpy3 (by decide), va_cpy3 (by decide), va_cpy3 (by decide)]
  exact hs
theorem x_pBeg {d n s : Nat} {h : Nat → aE} {q : Nat} {S T : PkS} (hn : 190 ≤ n) (hq : q + 28 < 67) (hnb : n < aBig) (hO : PkOk T) (hY : PkY h S) (hS : StX h q T) {Ψ : Option Value → aH → Prop} (kk : ∀ h', Fr h h' (fun j => 86 ≤ j ∧ j ≤ 188) → PkY h' (pkNt T (fun _ => 0)) → Ψ none (n, s, h')) : WO (mM (d + 3)) 69 [.ref 81, .ref q] (n, s, h) Ψ := by
  obtain ⟨⟨cnt, a⟩, b, ⟨lA, c, -⟩, ⟨tA, e, -⟩, f, g, i, j, k, l⟩ := hY
  obtain ⟨o, -, p1, p2, p3, p4, ⟨sA, p5, p6⟩⟩ := hS
  exact x_pBegin hn hq hnb hO.2.1.1 hO.2.1.2.1 hO.2.1.2.2 p6 a o c e p5 p1 p2 p3 p4 b f i g j k l kk
