/-! the law's loop -/
theorem WX.tsw0 {tb : aT} {o : aO} {Ψ : Option Value → aH → Prop} {pc : Nat} {L : aL} {S : List Value} {H : aH} {tg : List Nat} {df : Nat} {x : Int32} (hh : tb pc = some (.inl (a_tsw 0 11 tg df))) (kd : WX tb o Ψ df L S H) (kc : ∀ j, j < 12 → WX tb o Ψ (tg.getD j 0) L S H) : WX tb o Ψ pc L (.int x :: S) H := by
  by_cases h : x.toInt < 0 ∨ 11 < x.toInt
  · refine WX.st hh (x := (df, L, S, H)) ?_ kd
    show some ((if x.toInt < 0 ∨ 11 < x.toInt then df else tg.getD (x.toInt - 0).toNat 0), L, S, H) = _
    rw [if_pos h]
  · refine WX.st hh (x := (tg.getD (x.toInt - 0).toNat 0, L, S, H)) ?_ (kc _ (by omega))
    show some ((if x.toInt < 0 ∨ 11 < x.toInt then df else tg.getD (x.toInt - 0).toNat 0), L, S, H) = _
    rw [if_neg h]
def IV (h : Nat → aE) (L : Nat) (xs : Nat → Int32) : Prop := ∃ V : VS, SX h V ∧ (∃ I A LN, MAt h 190 I A LN ∧ RX I A V) ∧ VOk V ∧ h (aBig + 9) = .inl (1, L, .inl xs)
theorem vp_0 {i L : Nat} (h : i < L) (hL : L ≤ 2048) : vp_in (nI i) L := vp_in_nI h (by omega)
theorem vp_k {i L k : Nat} (h : i + k < L) (hL : L ≤ 2048) : vp_in (nI i + nI k) L := by
  rw [nI_add]
  exact vp_in_nI h (by omega)
theorem vp_1 {i L : Nat} (h : i + 1 < L) (hL : L ≤ 2048) : vp_in (nI i + 1) L := vp_k (k := 1) h hL
theorem vp_2 {i L : Nat} (h : i + 2 < L) (hL : L ≤ 2048) : vp_in (nI i + 2) L := vp_k (k := 2) h hL
theorem vp_3 {i L : Nat} (h : i + 3 < L) (hL : L ≤ 2048) : vp_in (nI i + 3) L := vp_k (k := 3) h hL
theorem big9 : ¬ aBig + 9 ≤ 189 := by
  have hB : aBig = 1000000 := rfl
  omega
theorem big9m : ¬ inM 190 (aBig + 9) := fun h => by
  have hB : aBig = 1000000 := rfl
  have := h.2
  omega
theorem inM_lo (x : Nat) (hx : x ≤ 189) : ¬ inM 190 x := fun h => by
  have := h.1
  omega
theorem inM_big (x : Nat) (hx : aBig ≤ x) : ¬ inM 190 x := fun h => by
  have hB : aBig = 1000000 := rfl
  have := h.2
  omega
set_option maxRecDepth 20000 in
theorem lw_write {i L s : Nat} {h : Nat → aE} {xs : Nat → Int32} {Ψ : Option Value → aH → Prop} (hI : IV h L xs) (hi : i + 4 ≤ L) (hL : L ≤ 2048) (K : ∀ h2, IV h2 L xs → WX (lk tLaw) (mM 10) Ψ 398 [(0, .ref (aBig + 9)), (1, .ref 0), (2, .ref 190), (3, .int (nI i))] [] (234, s, h2)) : WX (lk tLaw) (mM 10) Ψ 96 [(0, .ref (aBig + 9)), (1, .ref 0), (2, .ref 190), (3, .int (nI i))] [] (234, s, h) := by
  obtain ⟨⟨id, way, least, l, lo, ld, T, ab⟩, hX, ⟨I, A, LN, M_h, hR⟩, hV, F⟩ := hI
  have hn : 190 ≤ 234 := by decide
  have hm : 190 + 43 < 234 := by decide
  have hnb : 234 < aBig := by decide
  obtain ⟨hB, hlob⟩ := SX.rfb hX
  refine WX.s1 rfl rfl ?_
  refine WX.s1 rfl rfl ?_
  refine WX.s1 rfl rfl ?_
  refine WX.s1 rfl rfl ?_
  refine WX.s1 rfl rfl ?_
  refine WX.iald1 rfl (Or.inr ⟨Nat.le_add_right _ _, Nat.add_lt_add_left (by decide) _⟩) F (vp_1 (by omega) hL) ?_
  refine WX.s1 rfl rfl ?_
  refine WX.s1 rfl rfl ?_
  refine WX.s1 rfl rfl ?_
  refine WX.s1 rfl rfl ?_
  refine WX.s1 rfl rfl ?_
  refine WX.s1 rfl rfl ?_
  refine WX.s1 rfl rfl ?_
  refine WX.iald1 rfl (Or.inr ⟨Nat.le_add_right _ _, Nat.add_lt_add_left (by decide) _⟩) F (vp_2 (by omega) hL) ?_
  refine WX.s1 rfl rfl ?_
  refine WX.s1 rfl rfl ?_
  refine WX.s1 rfl rfl ?_
  refine WX.s1 rfl rfl ?_
  refine WX.s1 rfl rfl ?_
  refine WX.s1 rfl rfl ?_
  refine WX.s1 rfl rfl ?_
  refine WX.s1 rfl rfl ?_
  refine WX.iald1 rfl (Or.inr ⟨Nat.le_add_right _ _, Nat.add_lt_add_left (by decide) _⟩) F (vp_3 (by omega) hL) ?_
  refine WX.callC (vs := [.ref 0, .long _, .int _]) rfl rfl rfl (Nat.le_of_ble_eq_true rfl) (SX.rcv hX hn) ?_
  refine y_write hn hnb hX hV (fun h1 a1 W1 t1 f1 X1 => ?_)
  have F1 : h1 (aBig + 9) = .inl (1, L, .inl xs) := (f1 _ big9).trans F
  have M1 : MAt h1 190 I A LN := MAt.zfr M_h f1 (fun j hj q => by have h1 := hj.1; omega)
  show WX _ _ _ 125 [(0, .ref (aBig + 9)), (1, .ref 0), (2, .ref 190), (3, .int (nI i))] [.int a1] (234, s, h1)
  refine WX.s1 rfl rfl ?_
  refine WX.s1 rfl rfl ?_
  refine WX.s1 rfl rfl ?_
  refine WX.s1 rfl rfl ?_
  refine WX.s1 rfl rfl ?_
  refine WX.iald1 rfl (Or.inr ⟨Nat.le_add_right _ _, Nat.add_lt_add_left (by decide) _⟩) F1 (vp_1 (by omega) hL) ?_
  refine WX.s1 rfl rfl ?_
  refine WX.s1 rfl rfl ?_
  refine WX.s1 rfl rfl ?_
  refine WX.s1 rfl rfl ?_
  refine WX.s1 rfl rfl ?_
  refine WX.s1 rfl rfl ?_
  refine WX.s1 rfl rfl ?_
  refine WX.iald1 rfl (Or.inr ⟨Nat.le_add_right _ _, Nat.add_lt_add_left (by decide) _⟩) F1 (vp_2 (by omega) hL) ?_
  refine WX.s1 rfl rfl ?_
  refine WX.s1 rfl rfl ?_
  refine WX.s1 rfl rfl ?_
  refine WX.s1 rfl rfl ?_
  refine WX.s1 rfl rfl ?_
  refine WX.s1 rfl rfl ?_
  refine WX.s1 rfl rfl ?_
  refine WX.s1 rfl rfl ?_
  refine WX.iald1 rfl (Or.inr ⟨Nat.le_add_right _ _, Nat.add_lt_add_left (by decide) _⟩) F1 (vp_3 (by omega) hL) ?_
  refine WX.callC (vs := [.ref 190, .long _, .int _]) rfl rfl rfl (Nat.le_of_ble_eq_true rfl) (M1.rcv hm) ?_
  refine z_write hm M1 hR hB hV (fun h2 I2 A2 L2 a2 W2 t2 f2 M2 R2 => ?_)
  have F2 : h2 (aBig + 9) = .inl (1, L, .inl xs) := (f2 _ big9m).trans F1
  obtain ⟨rfl, rfl⟩ := tWr.uq t1 t2
  show WX _ _ _ 154 [(0, .ref (aBig + 9)), (1, .ref 0), (2, .ref 190), (3, .int (nI i))] [.int a1, .int a1] (234, s, h2)
  refine WX.icmp rfl (fun c => ?_) (fun c => absurd rfl c)
  exact K h2 ⟨W1, SX.zfr X1 f2 inM_lo inM_big, ⟨I2, A2, L2, M2, R2⟩, tWr.ok t1 hV, F2⟩
set_option maxRecDepth 20000 in
theorem lw_again {i L s : Nat} {h : Nat → aE} {xs : Nat → Int32} {Ψ : Option Value → aH → Prop} (hI : IV h L xs) (hi : i + 4 ≤ L) (hL : L ≤ 2048) (K : ∀ h2, IV h2 L xs → WX (lk tLaw) (mM 10) Ψ 398 [(0, .ref (aBig + 9)), (1, .ref 0), (2, .ref 190), (3, .int (nI i))] [] (234, s, h2)) : WX (lk tLaw) (mM 10) Ψ 159 [(0, .ref (aBig + 9)), (1, .ref 0), (2, .ref 190), (3, .int (nI i))] [] (234, s, h) := by
  obtain ⟨⟨id, way, least, l, lo, ld, T, ab⟩, hX, ⟨I, A, LN, M_h, hR⟩, hV, F⟩ := hI
  have hn : 190 ≤ 234 := by decide
  have hm : 190 + 43 < 234 := by decide
  have hnb : 234 < aBig := by decide
  obtain ⟨hB, hlob⟩ := SX.rfb hX
  refine WX.s1 rfl rfl ?_
  refine WX.s1 rfl rfl ?_
  refine WX.s1 rfl rfl ?_
  refine WX.s1 rfl rfl ?_
  refine WX.s1 rfl rfl ?_
  refine WX.iald1 rfl (Or.inr ⟨Nat.le_add_right _ _, Nat.add_lt_add_left (by decide) _⟩) F (vp_1 (by omega) hL) ?_
  refine WX.s1 rfl rfl ?_
  refine WX.s1 rfl rfl ?_
  refine WX.s1 rfl rfl ?_
  refine WX.s1 rfl rfl ?_
  refine WX.iald1 rfl (Or.inr ⟨Nat.le_add_right _ _, Nat.add_lt_add_left (by decide) _⟩) F (vp_2 (by omega) hL) ?_
  refine WX.callC (vs := [.ref 0, .int _, .int _]) rfl rfl rfl (Nat.le_of_ble_eq_true rfl) (SX.rcv hX hn) ?_
  refine y_again hn hnb hX hV (fun h1 a1 W1 t1 f1 X1 => ?_)
  have F1 : h1 (aBig + 9) = .inl (1, L, .inl xs) := (f1 _ big9).trans F
  have M1 : MAt h1 190 I A LN := MAt.zfr M_h f1 (fun j hj q => by have h1 := hj.1; omega)
  show WX _ _ _ 173 [(0, .ref (aBig + 9)), (1, .ref 0), (2, .ref 190), (3, .int (nI i))] [.int a1] (234, s, h1)
  refine WX.s1 rfl rfl ?_
  refine WX.s1 rfl rfl ?_
  refine WX.s1 rfl rfl ?_
  refine WX.s1 rfl rfl ?_
  refine WX.s1 rfl rfl ?_
  refine WX.iald1 rfl (Or.inr ⟨Nat.le_add_right _ _, Nat.add_lt_add_left (by decide) _⟩) F1 (vp_1 (by omega) hL) ?_
  refine WX.s1 rfl rfl ?_
  refine WX.s1 rfl rfl ?_
  refine WX.s1 rfl rfl ?_
  refine WX.s1 rfl rfl ?_
  refine WX.iald1 rfl (Or.inr ⟨Nat.le_add_right _ _, Nat.add_lt_add_left (by decide) _⟩) F1 (vp_2 (by omega) hL) ?_
  refine WX.callC (vs := [.ref 190, .int _, .int _]) rfl rfl rfl (Nat.le_of_ble_eq_true rfl) (M1.rcv hm) ?_
  refine z_again hm M1 hR hB hV (fun h2 I2 A2 L2 a2 W2 t2 f2 M2 R2 => ?_)
  have F2 : h2 (aBig + 9) = .inl (1, L, .inl xs) := (f2 _ big9m).trans F1
  obtain ⟨rfl, rfl⟩ := tAg.uq t1 t2
  show WX _ _ _ 187 [(0, .ref (aBig + 9)), (1, .ref 0), (2, .ref 190), (3, .int (nI i))] [.int a1, .int a1] (234, s, h2)
  refine WX.icmp rfl (fun c => ?_) (fun c => absurd rfl c)
  exact K h2 ⟨W1, SX.zfr X1 f2 inM_lo inM_big, ⟨I2, A2, L2, M2, R2⟩, tAg.ok t1 hV, F2⟩
set_option maxRecDepth 20000 in
theorem lw_clear {i L s : Nat} {h : Nat → aE} {xs : Nat → Int32} {Ψ : Option Value → aH → Prop} (hI : IV h L xs) (hi : i + 4 ≤ L) (hL : L ≤ 2048) (K : ∀ h2, IV h2 L xs → WX (lk tLaw) (mM 10) Ψ 398 [(0, .ref (aBig + 9)), (1, .ref 0), (2, .ref 190), (3, .int (nI i))] [] (234, s, h2)) : WX (lk tLaw) (mM 10) Ψ 192 [(0, .ref (aBig + 9)), (1, .ref 0), (2, .ref 190), (3, .int (nI i))] [] (234, s, h) := by
  obtain ⟨⟨id, way, least, l, lo, ld, T, ab⟩, hX, ⟨I, A, LN, M_h, hR⟩, hV, F⟩ := hI
  have hn : 190 ≤ 234 := by decide
  have hm : 190 + 43 < 234 := by decide
  have hnb : 234 < aBig := by decide
  obtain ⟨hB, hlob⟩ := SX.rfb hX
  refine WX.s1 rfl rfl ?_
  refine WX.callC (vs := [.ref 0]) rfl rfl rfl (Nat.le_of_ble_eq_true rfl) (SX.rcv hX hn) ?_
  refine y_clear hn hnb hX hV (fun h1 f1 X1 => ?_)
  have F1 : h1 (aBig + 9) = .inl (1, L, .inl xs) := (f1 _ big9).trans F
  have M1 : MAt h1 190 I A LN := MAt.zfr M_h f1 (fun j hj q => by have h1 := hj.1; omega)
  show WX _ _ _ 196 [(0, .ref (aBig + 9)), (1, .ref 0), (2, .ref 190), (3, .int (nI i))] [] (234, s, h1)
  refine WX.s1 rfl rfl ?_
  refine WX.callC (vs := [.ref 190]) rfl rfl rfl (Nat.le_of_ble_eq_true rfl) (M1.rcv hm) ?_
  refine z_clear hm M1 hR hB hV (fun h2 I2 A2 L2 f2 M2 R2 => ?_)
  have F2 : h2 (aBig + 9) = .inl (1, L, .inl xs) := (f2 _ big9m).trans F1
  show WX _ _ _ 200 [(0, .ref (aBig + 9)), (1, .ref 0), (2, .ref 190), (3, .int (nI i))] [] (234, s, h2)
  refine WX.s1 rfl rfl ?_
  exact K h2 ⟨(id, way, least, [], lo, ld, T, ab), SX.zfr X1 f2 inM_lo inM_big, ⟨I2, A2, L2, M2, R2⟩, hV, F2⟩
set_option maxRecDepth 20000 in
theorem lw_turn {i L s : Nat} {h : Nat → aE} {xs : Nat → Int32} {Ψ : Option Value → aH → Prop} (hI : IV h L xs) (hi : i + 4 ≤ L) (hL : L ≤ 2048) (K : ∀ h2, IV h2 L xs → WX (lk tLaw) (mM 10) Ψ 398 [(0, .ref (aBig + 9)), (1, .ref 0), (2, .ref 190), (3, .int (nI i))] [] (234, s, h2)) : WX (lk tLaw) (mM 10) Ψ 203 [(0, .ref (aBig + 9)), (1, .ref 0), (2, .ref 190), (3, .int (nI i))] [] (234, s, h) := by
  obtain ⟨⟨id, way, least, l, lo, ld, T, ab⟩, hX, ⟨I, A, LN, M_h, hR⟩, hV, F⟩ := hI
  have hn : 190 ≤ 234 := by decide
  have hm : 190 + 43 < 234 := by decide
  have hnb : 234 < aBig := by decide
  obtain ⟨hB, hlob⟩ := SX.rfb hX
  refine WX.s1 rfl rfl ?_
  refine WX.callC (vs := [.ref 0]) rfl rfl rfl (Nat.le_of_ble_eq_true rfl) (SX.rcv hX hn) ?_
  refine y_turn hn hnb hX hV (fun h1 a1 W1 t1 f1 X1 => ?_)
  have F1 : h1 (aBig + 9) = .inl (1, L, .inl xs) := (f1 _ big9).trans F
  have M1 : MAt h1 190 I A LN := MAt.zfr M_h f1 (fun j hj q => by have h1 := hj.1; omega)
  show WX _ _ _ 207 [(0, .ref (aBig + 9)), (1, .ref 0), (2, .ref 190), (3, .int (nI i))] [.int a1] (234, s, h1)
  refine WX.s1 rfl rfl ?_
  refine WX.callC (vs := [.ref 190]) rfl rfl rfl (Nat.le_of_ble_eq_true rfl) (M1.rcv hm) ?_
  refine z_turn hm M1 hR hB hV (fun h2 I2 A2 L2 a2 W2 t2 f2 M2 R2 => ?_)
  have F2 : h2 (aBig + 9) = .inl (1, L, .inl xs) := (f2 _ big9m).trans F1
  obtain ⟨rfl, rfl⟩ := tTu.uq t1 t2
  show WX _ _ _ 211 [(0, .ref (aBig + 9)), (1, .ref 0), (2, .ref 190), (3, .int (nI i))] [.int a1, .int a1] (234, s, h2)
  refine WX.icmp rfl (fun c => ?_) (fun c => absurd rfl c)
  exact K h2 ⟨W1, SX.zfr X1 f2 inM_lo inM_big, ⟨I2, A2, L2, M2, R2⟩, tTu.ok t1 hV, F2⟩
set_option maxRecDepth 20000 in
theorem lw_rule {i L s : Nat} {h : Nat → aE} {xs : Nat → Int32} {Ψ : Option Value → aH → Prop} (hI : IV h L xs) (hi : i + 4 ≤ L) (hL : L ≤ 2048) (K : ∀ h2, IV h2 L xs → WX (lk tLaw) (mM 10) Ψ 398 [(0, .ref (aBig + 9)), (1, .ref 0), (2, .ref 190), (3, .int (nI i))] [] (234, s, h2)) : WX (lk tLaw) (mM 10) Ψ 216 [(0, .ref (aBig + 9)), (1, .ref 0), (2, .ref 190), (3, .int (nI i))] [] (234, s, h) := by
  obtain ⟨⟨id, way, least, l, lo, ld, T, ab⟩, hX, ⟨I, A, LN, M_h, hR⟩, hV, F⟩ := hI
  have hn : 190 ≤ 234 := by decide
  have hm : 190 + 43 < 234 := by decide
  have hnb : 234 < aBig := by decide
  obtain ⟨hB, hlob⟩ := SX.rfb hX
  refine WX.s1 rfl rfl ?_
  refine WX.s1 rfl rfl ?_
  refine WX.s1 rfl rfl ?_
  refine WX.s1 rfl rfl ?_
  refine WX.s1 rfl rfl ?_
  refine WX.iald1 rfl (Or.inr ⟨Nat.le_add_right _ _, Nat.add_lt_add_left (by decide) _⟩) F (vp_1 (by omega) hL) ?_
  refine WX.s1 rfl rfl ?_
  refine WX.s1 rfl rfl ?_
  refine WX.s1 rfl rfl ?_
  refine WX.s1 rfl rfl ?_
  refine WX.iald1 rfl (Or.inr ⟨Nat.le_add_right _ _, Nat.add_lt_add_left (by decide) _⟩) F (vp_2 (by omega) hL) ?_
  refine WX.callC (vs := [.ref 0, .int _, .int _]) rfl rfl rfl (Nat.le_of_ble_eq_true rfl) (SX.rcv hX hn) ?_
  refine y_rule hn hnb hX hV (fun h1 a1 W1 t1 f1 X1 => ?_)
  have F1 : h1 (aBig + 9) = .inl (1, L, .inl xs) := (f1 _ big9).trans F
  have M1 : MAt h1 190 I A LN := MAt.zfr M_h f1 (fun j hj q => by have h1 := hj.1; omega)
  show WX _ _ _ 230 [(0, .ref (aBig + 9)), (1, .ref 0), (2, .ref 190), (3, .int (nI i))] [.int a1] (234, s, h1)
  refine WX.s1 rfl rfl ?_
  refine WX.s1 rfl rfl ?_
  refine WX.s1 rfl rfl ?_
  refine WX.s1 rfl rfl ?_
  refine WX.s1 rfl rfl ?_
  refine WX.iald1 rfl (Or.inr ⟨Nat.le_add_right _ _, Nat.add_lt_add_left (by decide) _⟩) F1 (vp_1 (by omega) hL) ?_
  refine WX.s1 rfl rfl ?_
  refine WX.s1 rfl rfl ?_
  refine WX.s1 rfl rfl ?_
  refine WX.s1 rfl rfl ?_
  refine WX.iald1 rfl (Or.inr ⟨Nat.le_add_right _ _, Nat.add_lt_add_left (by decide) _⟩) F1 (vp_2 (by omega) hL) ?_
  refine WX.callC (vs := [.ref 190, .int _, .int _]) rfl rfl rfl (Nat.le_of_ble_eq_true rfl) (M1.rcv hm) ?_
  refine z_rule hm M1 hR hB hV (fun h2 I2 A2 L2 a2 W2 t2 f2 M2 R2 => ?_)
  have F2 : h2 (aBig + 9) = .inl (1, L, .inl xs) := (f2 _ big9m).trans F1
  obtain ⟨rfl, rfl⟩ := tRu.uq t1 t2
  show WX _ _ _ 244 [(0, .ref (aBig + 9)), (1, .ref 0), (2, .ref 190), (3, .int (nI i))] [.int a1, .int a1] (234, s, h2)
  refine WX.icmp rfl (fun c => ?_) (fun c => absurd rfl c)
  exact K h2 ⟨W1, SX.zfr X1 f2 inM_lo inM_big, ⟨I2, A2, L2, M2, R2⟩, tRu.ok t1 hV, F2⟩
set_option maxRecDepth 20000 in
theorem lw_learn {i L s : Nat} {h : Nat → aE} {xs : Nat → Int32} {Ψ : Option Value → aH → Prop} (hI : IV h L xs) (hi : i + 4 ≤ L) (hL : L ≤ 2048) (K : ∀ h2, IV h2 L xs → WX (lk tLaw) (mM 10) Ψ 398 [(0, .ref (aBig + 9)), (1, .ref 0), (2, .ref 190), (3, .int (nI i))] [] (234, s, h2)) : WX (lk tLaw) (mM 10) Ψ 249 [(0, .ref (aBig + 9)), (1, .ref 0), (2, .ref 190), (3, .int (nI i))] [] (234, s, h) := by
  obtain ⟨⟨id, way, least, l, lo, ld, T, ab⟩, hX, ⟨I, A, LN, M_h, hR⟩, hV, F⟩ := hI
  have hn : 190 ≤ 234 := by decide
  have hm : 190 + 43 < 234 := by decide
  have hnb : 234 < aBig := by decide
  obtain ⟨hB, hlob⟩ := SX.rfb hX
  refine WX.s1 rfl rfl ?_
  refine WX.callC (vs := [.ref 0]) rfl rfl rfl (Nat.le_of_ble_eq_true rfl) (SX.rcv hX hn) ?_
  refine y_learn hn hnb hX hV (fun h1 a1 W1 t1 f1 X1 => ?_)
  have F1 : h1 (aBig + 9) = .inl (1, L, .inl xs) := (f1 _ big9).trans F
  have M1 : MAt h1 190 I A LN := MAt.zfr M_h f1 (fun j hj q => by have h1 := hj.1; omega)
  show WX _ _ _ 253 [(0, .ref (aBig + 9)), (1, .ref 0), (2, .ref 190), (3, .int (nI i))] [.int a1] (234, s, h1)
  refine WX.s1 rfl rfl ?_
  refine WX.callC (vs := [.ref 190]) rfl rfl rfl (Nat.le_of_ble_eq_true rfl) (M1.rcv hm) ?_
  refine z_learn hm M1 hR hB hV (fun h2 I2 A2 L2 a2 W2 t2 f2 M2 R2 => ?_)
  have F2 : h2 (aBig + 9) = .inl (1, L, .inl xs) := (f2 _ big9m).trans F1
  obtain ⟨rfl, rfl⟩ := tLe.uq t1 t2
  show WX _ _ _ 257 [(0, .ref (aBig + 9)), (1, .ref 0), (2, .ref 190), (3, .int (nI i))] [.int a1, .int a1] (234, s, h2)
  refine WX.icmp rfl (fun c => ?_) (fun c => absurd rfl c)
  exact K h2 ⟨W1, SX.zfr X1 f2 inM_lo inM_big, ⟨I2, A2, L2, M2, R2⟩, tLe.ok hB t1 hV, F2⟩
set_option maxRecDepth 20000 in
theorem lw_forget {i L s : Nat} {h : Nat → aE} {xs : Nat → Int32} {Ψ : Option Value → aH → Prop} (hI : IV h L xs) (hi : i + 4 ≤ L) (hL : L ≤ 2048) (K : ∀ h2, IV h2 L xs → WX (lk tLaw) (mM 10) Ψ 398 [(0, .ref (aBig + 9)), (1, .ref 0), (2, .ref 190), (3, .int (nI i))] [] (234, s, h2)) : WX (lk tLaw) (mM 10) Ψ 262 [(0, .ref (aBig + 9)), (1, .ref 0), (2, .ref 190), (3, .int (nI i))] [] (234, s, h) := by
  obtain ⟨⟨id, way, least, l, lo, ld, T, ab⟩, hX, ⟨I, A, LN, M_h, hR⟩, hV, F⟩ := hI
  have hn : 190 ≤ 234 := by decide
  have hm : 190 + 43 < 234 := by decide
  have hnb : 234 < aBig := by decide
  obtain ⟨hB, hlob⟩ := SX.rfb hX
  refine WX.s1 rfl rfl ?_
  refine WX.callC (vs := [.ref 0]) rfl rfl rfl (Nat.le_of_ble_eq_true rfl) (SX.rcv hX hn) ?_
  refine y_forget hn hnb hX hV (fun h1 f1 X1 => ?_)
  have F1 : h1 (aBig + 9) = .inl (1, L, .inl xs) := (f1 _ big9).trans F
  have M1 : MAt h1 190 I A LN := MAt.zfr M_h f1 (fun j hj q => by have h1 := hj.1; omega)
  show WX _ _ _ 266 [(0, .ref (aBig + 9)), (1, .ref 0), (2, .ref 190), (3, .int (nI i))] [] (234, s, h1)
  refine WX.s1 rfl rfl ?_
  refine WX.callC (vs := [.ref 190]) rfl rfl rfl (Nat.le_of_ble_eq_true rfl) (M1.rcv hm) ?_
  refine z_forget hm M1 hR hB hV (fun h2 I2 A2 L2 f2 M2 R2 => ?_)
  have F2 : h2 (aBig + 9) = .inl (1, L, .inl xs) := (f2 _ big9m).trans F1
  show WX _ _ _ 270 [(0, .ref (aBig + 9)), (1, .ref 0), (2, .ref 190), (3, .int (nI i))] [] (234, s, h2)
  refine WX.s1 rfl rfl ?_
  exact K h2 ⟨(0, way, least, l, lo, [], stN, ab), SX.zfr X1 f2 inM_lo inM_big, ⟨I2, A2, L2, M2, R2⟩, ⟨Nat.pow_pos (by decide), hV.2.1, hV.2.2.1, hV.2.2.2.1, stN_ok⟩, F2⟩
set_option maxRecDepth 20000 in
theorem lw_press {i L s : Nat} {h : Nat → aE} {xs : Nat → Int32} {Ψ : Option Value → aH → Prop} (hI : IV h L xs) (hi : i + 4 ≤ L) (hL : L ≤ 2048) (K : ∀ h2, IV h2 L xs → WX (lk tLaw) (mM 10) Ψ 398 [(0, .ref (aBig + 9)), (1, .ref 0), (2, .ref 190), (3, .int (nI i))] [] (234, s, h2)) : WX (lk tLaw) (mM 10) Ψ 273 [(0, .ref (aBig + 9)), (1, .ref 0), (2, .ref 190), (3, .int (nI i))] [] (234, s, h) := by
  obtain ⟨⟨id, way, least, l, lo, ld, T, ab⟩, hX, ⟨I, A, LN, M_h, hR⟩, hV, F⟩ := hI
  have hn : 190 ≤ 234 := by decide
  have hm : 190 + 43 < 234 := by decide
  have hnb : 234 < aBig := by decide
  obtain ⟨hB, hlob⟩ := SX.rfb hX
  refine WX.s1 rfl rfl ?_
  refine WX.s1 rfl rfl ?_
  refine WX.s1 rfl rfl ?_
  refine WX.s1 rfl rfl ?_
  refine WX.s1 rfl rfl ?_
  refine WX.iald1 rfl (Or.inr ⟨Nat.le_add_right _ _, Nat.add_lt_add_left (by decide) _⟩) F (vp_1 (by omega) hL) ?_
  refine WX.s1 rfl rfl ?_
  refine WX.s1 rfl rfl ?_
  refine WX.s1 rfl rfl ?_
  refine WX.s1 rfl rfl ?_
  refine WX.iald1 rfl (Or.inr ⟨Nat.le_add_right _ _, Nat.add_lt_add_left (by decide) _⟩) F (vp_2 (by omega) hL) ?_
  refine WX.s1 rfl rfl ?_
  refine WX.s1 rfl rfl ?_
  refine WX.s1 rfl rfl ?_
  refine WX.s1 rfl rfl ?_
  refine WX.iald1 rfl (Or.inr ⟨Nat.le_add_right _ _, Nat.add_lt_add_left (by decide) _⟩) F (vp_3 (by omega) hL) ?_
  refine WX.callC (vs := [.ref 0, .int _, .int _, .int _]) rfl rfl rfl (Nat.le_of_ble_eq_true rfl) (SX.rcv hX hn) ?_
  refine y_press hn hnb hX hV (fun h1 a1 W1 t1 f1 X1 => ?_)
  have F1 : h1 (aBig + 9) = .inl (1, L, .inl xs) := (f1 _ big9).trans F
  have M1 : MAt h1 190 I A LN := MAt.zfr M_h f1 (fun j hj q => by have h1 := hj.1; omega)
  show WX _ _ _ 292 [(0, .ref (aBig + 9)), (1, .ref 0), (2, .ref 190), (3, .int (nI i))] [.int a1] (234, s, h1)
  refine WX.s1 rfl rfl ?_
  refine WX.s1 rfl rfl ?_
  refine WX.s1 rfl rfl ?_
  refine WX.s1 rfl rfl ?_
  refine WX.s1 rfl rfl ?_
  refine WX.iald1 rfl (Or.inr ⟨Nat.le_add_right _ _, Nat.add_lt_add_left (by decide) _⟩) F1 (vp_1 (by omega) hL) ?_
  refine WX.s1 rfl rfl ?_
  refine WX.s1 rfl rfl ?_
  refine WX.s1 rfl rfl ?_
  refine WX.s1 rfl rfl ?_
  refine WX.iald1 rfl (Or.inr ⟨Nat.le_add_right _ _, Nat.add_lt_add_left (by decide) _⟩) F1 (vp_2 (by omega) hL) ?_
  refine WX.s1 rfl rfl ?_
  refine WX.s1 rfl rfl ?_
  refine WX.s1 rfl rfl ?_
  refine WX.s1 rfl rfl ?_
  refine WX.iald1 rfl (Or.inr ⟨Nat.le_add_right _ _, Nat.add_lt_add_left (by decide) _⟩) F1 (vp_3 (by omega) hL) ?_
  refine WX.callC (vs := [.ref 190, .int _, .int _, .int _]) rfl rfl rfl (Nat.le_of_ble_eq_true rfl) (M1.rcv hm) ?_
  refine z_press hm M1 hR hB hV (fun h2 I2 A2 L2 a2 W2 t2 f2 M2 R2 => ?_)
  have F2 : h2 (aBig + 9) = .inl (1, L, .inl xs) := (f2 _ big9m).trans F1
  obtain ⟨rfl, rfl⟩ := tPr.uq t1 t2
  show WX _ _ _ 311 [(0, .ref (aBig + 9)), (1, .ref 0), (2, .ref 190), (3, .int (nI i))] [.int a1, .int a1] (234, s, h2)
  refine WX.icmp rfl (fun c => ?_) (fun c => absurd rfl c)
  exact K h2 ⟨W1, SX.zfr X1 f2 inM_lo inM_big, ⟨I2, A2, L2, M2, R2⟩, tPr.ok t1 hV, F2⟩
set_option maxRecDepth 20000 in
theorem lw_make {i L s : Nat} {h : Nat → aE} {xs : Nat → Int32} {Ψ : Option Value → aH → Prop} (hI : IV h L xs) (hi : i + 4 ≤ L) (hL : L ≤ 2048) (K : ∀ h2, IV h2 L xs → WX (lk tLaw) (mM 10) Ψ 398 [(0, .ref (aBig + 9)), (1, .ref 0), (2, .ref 190), (3, .int (nI i))] [] (234, s, h2)) : WX (lk tLaw) (mM 10) Ψ 316 [(0, .ref (aBig + 9)), (1, .ref 0), (2, .ref 190), (3, .int (nI i))] [] (234, s, h) := by
  obtain ⟨⟨id, way, least, l, lo, ld, T, ab⟩, hX, ⟨I, A, LN, M_h, hR⟩, hV, F⟩ := hI
  have hn : 190 ≤ 234 := by decide
  have hm : 190 + 43 < 234 := by decide
  have hnb : 234 < aBig := by decide
  obtain ⟨hB, hlob⟩ := SX.rfb hX
  refine WX.s1 rfl rfl ?_
  refine WX.s1 rfl rfl ?_
  refine WX.s1 rfl rfl ?_
  refine WX.s1 rfl rfl ?_
  refine WX.s1 rfl rfl ?_
  refine WX.iald1 rfl (Or.inr ⟨Nat.le_add_right _ _, Nat.add_lt_add_left (by decide) _⟩) F (vp_1 (by omega) hL) ?_
  refine WX.callC (vs := [.ref 0, .int _]) rfl rfl rfl (Nat.le_of_ble_eq_true rfl) (SX.rcv hX hn) ?_
  refine y_make hn hnb hX hV (fun h1 a1 W1 t1 f1 X1 => ?_)
  have F1 : h1 (aBig + 9) = .inl (1, L, .inl xs) := (f1 _ big9).trans F
  have M1 : MAt h1 190 I A LN := MAt.zfr M_h f1 (fun j hj q => by have h1 := hj.1; omega)
  show WX _ _ _ 325 [(0, .ref (aBig + 9)), (1, .ref 0), (2, .ref 190), (3, .int (nI i))] [.int a1] (234, s, h1)
  refine WX.s1 rfl rfl ?_
  refine WX.s1 rfl rfl ?_
  refine WX.s1 rfl rfl ?_
  refine WX.s1 rfl rfl ?_
  refine WX.s1 rfl rfl ?_
  refine WX.iald1 rfl (Or.inr ⟨Nat.le_add_right _ _, Nat.add_lt_add_left (by decide) _⟩) F1 (vp_1 (by omega) hL) ?_
  refine WX.callC (vs := [.ref 190, .int _]) rfl rfl rfl (Nat.le_of_ble_eq_true rfl) (M1.rcv hm) ?_
  refine z_make hm M1 hR hB hV (fun h2 I2 A2 L2 a2 W2 t2 f2 M2 R2 => ?_)
  have F2 : h2 (aBig + 9) = .inl (1, L, .inl xs) := (f2 _ big9m).trans F1
  obtain ⟨rfl, rfl⟩ := tMk.uq t1 t2
  show WX _ _ _ 334 [(0, .ref (aBig + 9)), (1, .ref 0), (2, .ref 190), (3, .int (nI i))] [.int a1, .int a1] (234, s, h2)
  refine WX.icmp rfl (fun c => ?_) (fun c => absurd rfl c)
  exact K h2 ⟨W1, SX.zfr X1 f2 inM_lo inM_big, ⟨I2, A2, L2, M2, R2⟩, tMk.ok t1 hV, F2⟩
set_option maxRecDepth 20000 in
theorem lw_about {i L s : Nat} {h : Nat → aE} {xs : Nat → Int32} {Ψ : Option Value → aH → Prop} (hI : IV h L xs) (hi : i + 4 ≤ L) (hL : L ≤ 2048) (K : ∀ h2, IV h2 L xs → WX (lk tLaw) (mM 10) Ψ 398 [(0, .ref (aBig + 9)), (1, .ref 0), (2, .ref 190), (3, .int (nI i))] [] (234, s, h2)) : WX (lk tLaw) (mM 10) Ψ 339 [(0, .ref (aBig + 9)), (1, .ref 0), (2, .ref 190), (3, .int (nI i))] [] (234, s, h) := by
  obtain ⟨⟨id, way, least, l, lo, ld, T, ab⟩, hX, ⟨I, A, LN, M_h, hR⟩, hV, F⟩ := hI
  have hn : 190 ≤ 234 := by decide
  have hm : 190 + 43 < 234 := by decide
  have hnb : 234 < aBig := by decide
  obtain ⟨hB, hlob⟩ := SX.rfb hX
  refine WX.s1 rfl rfl ?_
  refine WX.s1 rfl rfl ?_
  refine WX.s1 rfl rfl ?_
  refine WX.s1 rfl rfl ?_
  refine WX.s1 rfl rfl ?_
  refine WX.iald1 rfl (Or.inr ⟨Nat.le_add_right _ _, Nat.add_lt_add_left (by decide) _⟩) F (vp_1 (by omega) hL) ?_
  refine WX.callC (vs := [.ref 0, .int _]) rfl rfl rfl (Nat.le_of_ble_eq_true rfl) (SX.rcv hX hn) ?_
  refine y_about hn hnb hX hV (fun h1 a1 W1 t1 f1 X1 => ?_)
  have F1 : h1 (aBig + 9) = .inl (1, L, .inl xs) := (f1 _ big9).trans F
  have M1 : MAt h1 190 I A LN := MAt.zfr M_h f1 (fun j hj q => by have h1 := hj.1; omega)
  show WX _ _ _ 348 [(0, .ref (aBig + 9)), (1, .ref 0), (2, .ref 190), (3, .int (nI i))] [.int a1] (234, s, h1)
  refine WX.s1 rfl rfl ?_
  refine WX.s1 rfl rfl ?_
  refine WX.s1 rfl rfl ?_
  refine WX.s1 rfl rfl ?_
  refine WX.s1 rfl rfl ?_
  refine WX.iald1 rfl (Or.inr ⟨Nat.le_add_right _ _, Nat.add_lt_add_left (by decide) _⟩) F1 (vp_1 (by omega) hL) ?_
  refine WX.callC (vs := [.ref 190, .int _]) rfl rfl rfl (Nat.le_of_ble_eq_true rfl) (M1.rcv hm) ?_
  refine z_about hm M1 hR hB hV (fun h2 I2 A2 L2 a2 W2 t2 f2 M2 R2 => ?_)
  have F2 : h2 (aBig + 9) = .inl (1, L, .inl xs) := (f2 _ big9m).trans F1
  obtain ⟨rfl, rfl⟩ := tAb.uq t1 t2
  show WX _ _ _ 357 [(0, .ref (aBig + 9)), (1, .ref 0), (2, .ref 190), (3, .int (nI i))] [.int a1, .int a1] (234, s, h2)
  refine WX.icmp rfl (fun c => ?_) (fun c => absurd rfl c)
  exact K h2 ⟨W1, SX.zfr X1 f2 inM_lo inM_big, ⟨I2, A2, L2, M2, R2⟩, tAb.ok t1 hV, F2⟩
set_option maxRecDepth 20000 in
theorem lw_size {i L s : Nat} {h : Nat → aE} {xs : Nat → Int32} {Ψ : Option Value → aH → Prop} (hI : IV h L xs) (hi : i + 4 ≤ L) (hL : L ≤ 2048) (K : ∀ h2, IV h2 L xs → WX (lk tLaw) (mM 10) Ψ 398 [(0, .ref (aBig + 9)), (1, .ref 0), (2, .ref 190), (3, .int (nI i))] [] (234, s, h2)) : WX (lk tLaw) (mM 10) Ψ 362 [(0, .ref (aBig + 9)), (1, .ref 0), (2, .ref 190), (3, .int (nI i))] [] (234, s, h) := by
  obtain ⟨⟨id, way, least, l, lo, ld, T, ab⟩, hX, ⟨I, A, LN, M_h, hR⟩, hV, F⟩ := hI
  have hn : 190 ≤ 234 := by decide
  have hm : 190 + 43 < 234 := by decide
  have hnb : 234 < aBig := by decide
  obtain ⟨hB, hlob⟩ := SX.rfb hX
  refine WX.s1 rfl rfl ?_
  refine WX.callC (vs := [.ref 0]) rfl rfl rfl (Nat.le_of_ble_eq_true rfl) (SX.rcv hX hn) ?_
  refine y_size hn hnb hX hV (fun h1 a1 W1 t1 f1 X1 => ?_)
  have F1 : h1 (aBig + 9) = .inl (1, L, .inl xs) := (f1 _ big9).trans F
  have M1 : MAt h1 190 I A LN := MAt.zfr M_h f1 (fun j hj q => by have h1 := hj.1; omega)
  show WX _ _ _ 366 [(0, .ref (aBig + 9)), (1, .ref 0), (2, .ref 190), (3, .int (nI i))] [.int a1] (234, s, h1)
  refine WX.s1 rfl rfl ?_
  refine WX.callC (vs := [.ref 190]) rfl rfl rfl (Nat.le_of_ble_eq_true rfl) (M1.rcv hm) ?_
  refine z_size hm M1 hR hB hV (fun h2 I2 A2 L2 a2 W2 t2 f2 M2 R2 => ?_)
  have F2 : h2 (aBig + 9) = .inl (1, L, .inl xs) := (f2 _ big9m).trans F1
  obtain ⟨rfl, rfl⟩ := tSz.uq t1 t2
  show WX _ _ _ 370 [(0, .ref (aBig + 9)), (1, .ref 0), (2, .ref 190), (3, .int (nI i))] [.int a1, .int a1] (234, s, h2)
  refine WX.icmp rfl (fun c => ?_) (fun c => absurd rfl c)
  exact K h2 ⟨W1, SX.zfr X1 f2 inM_lo inM_big, ⟨I2, A2, L2, M2, R2⟩, tSz.ok t1 hV, F2⟩
set_option maxRecDepth 20000 in
theorem lw_byteAt {i L s : Nat} {h : Nat → aE} {xs : Nat → Int32} {Ψ : Option Value → aH → Prop} (hI : IV h L xs) (hi : i + 4 ≤ L) (hL : L ≤ 2048) (K : ∀ h2, IV h2 L xs → WX (lk tLaw) (mM 10) Ψ 398 [(0, .ref (aBig + 9)), (1, .ref 0), (2, .ref 190), (3, .int (nI i))] [] (234, s, h2)) : WX (lk tLaw) (mM 10) Ψ 375 [(0, .ref (aBig + 9)), (1, .ref 0), (2, .ref 190), (3, .int (nI i))] [] (234, s, h) := by
  obtain ⟨⟨id, way, least, l, lo, ld, T, ab⟩, hX, ⟨I, A, LN, M_h, hR⟩, hV, F⟩ := hI
  have hn : 190 ≤ 234 := by decide
  have hm : 190 + 43 < 234 := by decide
  have hnb : 234 < aBig := by decide
  obtain ⟨hB, hlob⟩ := SX.rfb hX
  refine WX.s1 rfl rfl ?_
  refine WX.s1 rfl rfl ?_
  refine WX.s1 rfl rfl ?_
  refine WX.s1 rfl rfl ?_
  refine WX.s1 rfl rfl ?_
  refine WX.iald1 rfl (Or.inr ⟨Nat.le_add_right _ _, Nat.add_lt_add_left (by decide) _⟩) F (vp_1 (by omega) hL) ?_
  refine WX.callC (vs := [.ref 0, .int _]) rfl rfl rfl (Nat.le_of_ble_eq_true rfl) (SX.rcv hX hn) ?_
  refine y_byteAt hn hnb hX hV (fun h1 a1 W1 t1 f1 X1 => ?_)
  have F1 : h1 (aBig + 9) = .inl (1, L, .inl xs) := (f1 _ big9).trans F
  have M1 : MAt h1 190 I A LN := MAt.zfr M_h f1 (fun j hj q => by have h1 := hj.1; omega)
  show WX _ _ _ 384 [(0, .ref (aBig + 9)), (1, .ref 0), (2, .ref 190), (3, .int (nI i))] [.int a1] (234, s, h1)
  refine WX.s1 rfl rfl ?_
  refine WX.s1 rfl rfl ?_
  refine WX.s1 rfl rfl ?_
  refine WX.s1 rfl rfl ?_
  refine WX.s1 rfl rfl ?_
  refine WX.iald1 rfl (Or.inr ⟨Nat.le_add_right _ _, Nat.add_lt_add_left (by decide) _⟩) F1 (vp_1 (by omega) hL) ?_
  refine WX.callC (vs := [.ref 190, .int _]) rfl rfl rfl (Nat.le_of_ble_eq_true rfl) (M1.rcv hm) ?_
  refine z_byteAt hm M1 hR hB hV (fun h2 I2 A2 L2 a2 W2 t2 f2 M2 R2 => ?_)
  have F2 : h2 (aBig + 9) = .inl (1, L, .inl xs) := (f2 _ big9m).trans F1
  obtain ⟨rfl, rfl⟩ := tBy.uq hB.2.2.1 t1 t2
  show WX _ _ _ 393 [(0, .ref (aBig + 9)), (1, .ref 0), (2, .ref 190), (3, .int (nI i))] [.int a1, .int a1] (234, s, h2)
  refine WX.icmp rfl (fun c => ?_) (fun c => absurd rfl c)
  exact K h2 ⟨W1, SX.zfr X1 f2 inM_lo inM_big, ⟨I2, A2, L2, M2, R2⟩, tBy.ok t1 hV, F2⟩
set_option maxRecDepth 20000 in
theorem lw_iter {i L s : Nat} {h : Nat → aE} {xs : Nat → Int32} {Ψ : Option Value → aH → Prop} (hI : IV h L xs) (hi : i + 4 ≤ L) (hL : L ≤ 2048) (K : ∀ h2, IV h2 L xs → WX (lk tLaw) (mM 10) Ψ 398 [(0, .ref (aBig + 9)), (1, .ref 0), (2, .ref 190), (3, .int (nI i))] [] (234, s, h2)) : WX (lk tLaw) (mM 10) Ψ 26 [(0, .ref (aBig + 9)), (1, .ref 0), (2, .ref 190), (3, .int (nI i))] [] (234, s, h) := by
  have F : h (aBig + 9) = .inl (1, L, .inl xs) := by
    obtain ⟨V, -, -, -, F⟩ := hI
    exact F
  refine WX.s1 rfl rfl ?_
  refine WX.s1 rfl rfl ?_
  refine WX.iald1 rfl (Or.inr ⟨Nat.le_add_right _ _, Nat.add_lt_add_left (by decide) _⟩) F (vp_0 (by omega) hL) ?_
  refine WX.s1 rfl rfl ?_
  refine WX.s1 rfl rfl ?_
  refine WX.tsw0 rfl (K h hI) (fun j hj => ?_)
  obtain rfl | rfl | rfl | rfl | rfl | rfl | rfl | rfl | rfl | rfl | rfl | rfl : j = 0 ∨ j = 1 ∨ j = 2 ∨ j = 3 ∨ j = 4 ∨ j = 5 ∨ j = 6 ∨ j = 7 ∨ j = 8 ∨ j = 9 ∨ j = 10 ∨ j = 11 := by omega
  · exact lw_write hI hi hL K
  · exact lw_again hI hi hL K
  · exact lw_clear hI hi hL K
  · exact lw_turn hI hi hL K
  · exact lw_rule hI hi hL K
  · exact lw_learn hI hi hL K
  · exact lw_forget hI hi hL K
  · exact lw_press hI hi hL K
  · exact lw_make hI hi hL K
  · exact lw_about hI hi hL K
  · exact lw_size hI hi hL K
  · exact lw_byteAt hI hi hL K
theorem lsub_4 {i L : Nat} (hi : i ≤ 4096) (hL : L ≤ 2048) (h : ¬ nI L - 4 < nI i) : i + 4 ≤ L := by
  refine Classical.byContradiction fun z => h ?_
  by_cases q : 4 ≤ L
  · have e : nI L - 4 = nI (L - 4) := nI_subN (a := L) (b := 4) q
    rw [e]
    exact nI_lt (by omega) (by omega)
  · have e : nI L - 4 < 0 := by
      obtain rfl | rfl | rfl | rfl : L = 0 ∨ L = 1 ∨ L = 2 ∨ L = 3 := by omega
      · decide
      · decide
      · decide
      · decide
    exact Int32.lt_of_lt_of_le e (nI_pos' (by omega))
set_option maxRecDepth 20000 in
theorem lw_loop {L s : Nat} {xs : Nat → Int32} {Ψ : Option Value → aH → Prop} (hL : L ≤ 2048) (K : ∀ h2 : Nat → aE, Ψ (some (.int 1)) (234, s, h2)) : ∀ (t i : Nat) (h : Nat → aE), L < i + t → i ≤ 2052 → IV h L xs → WX (lk tLaw) (mM 10) Ψ 18 [(0, .ref (aBig + 9)), (1, .ref 0), (2, .ref 190), (3, .int (nI i))] [] (234, s, h) := by
  intro t
  induction t with
  | zero =>
    intro i h ht hi hI
    have F : h (aBig + 9) = .inl (1, L, .inl xs) := by
      obtain ⟨V, -, -, -, F⟩ := hI
      exact F
    refine WX.s1 rfl rfl ?_
    refine WX.s1 rfl rfl ?_
    refine WX.len1 rfl (Or.inr ⟨Nat.le_add_right _ _, Nat.add_lt_add_left (by decide) _⟩) F ?_
    refine WX.s1 rfl rfl ?_
    refine WX.s1 rfl rfl ?_
    refine WX.icmp rfl (fun c => ?_) (fun c => absurd (lsub_4 (by omega) hL c) (by omega))
    refine WX.s1 rfl rfl ?_
    exact WX.ret3 rfl (Or.inr rfl) (K h)
  | succ t ih =>
    intro i h ht hi hI
    have F : h (aBig + 9) = .inl (1, L, .inl xs) := by
      obtain ⟨V, -, -, -, F⟩ := hI
      exact F
    refine WX.s1 rfl rfl ?_
    refine WX.s1 rfl rfl ?_
    refine WX.len1 rfl (Or.inr ⟨Nat.le_add_right _ _, Nat.add_lt_add_left (by decide) _⟩) F ?_
    refine WX.s1 rfl rfl ?_
    refine WX.s1 rfl rfl ?_
    refine WX.icmp rfl (fun c => ?_) (fun c => ?_)
    · refine WX.s1 rfl rfl ?_
      exact WX.ret3 rfl (Or.inr rfl) (K h)
    · have hi4 := lsub_4 (by omega) hL c
      refine lw_iter hI hi4 hL (fun h2 hI2 => ?_)
      refine WX.s1 (L' := [(0, .ref (aBig + 9)), (1, .ref 0), (2, .ref 190), (3, .int (nI i + nI 4))]) rfl rfl ?_
      rw [nI_add]
      refine WX.s1 rfl rfl ?_
      exact ih (i + 4) h2 (by omega) (by omega) hI2
