/-! the law on a script of four ints: one call on a new object -/
theorem WX.tsw0 {tb : aT} {o : aO} {Ψ : Option Value → aH → Prop} {pc : Nat} {L : aL} {S : List Value} {H : aH} {tg : List Nat} {df : Nat} {x : Int32} (hh : tb pc = some (.inl (a_tsw 0 11 tg df))) (kd : WX tb o Ψ df L S H) (kc : ∀ j, j < 12 → WX tb o Ψ (tg.getD j 0) L S H) : WX tb o Ψ pc L (.int x :: S) H := by
  by_cases h : x.toInt < 0 ∨ 11 < x.toInt
  · refine WX.st hh (x := (df, L, S, H)) ?_ kd
    show some ((if x.toInt < 0 ∨ 11 < x.toInt then df else tg.getD (x.toInt - 0).toNat 0), L, S, H) = _
    rw [if_pos h]
  · refine WX.st hh (x := (tg.getD (x.toInt - 0).toNat 0, L, S, H)) ?_ (kc _ (by omega))
    show some ((if x.toInt < 0 ∨ 11 < x.toInt then df else tg.getD (x.toInt - 0).toNat 0), L, S, H) = _
    rw [if_neg h]
theorem Cells.at_ {h : Nat → aE} {e : aE} : ∀ (l : List aE) (k i : Nat), Cells h k l → l[i]? = some e → h (k + i) = e := by
  intro l
  induction l with
  | nil => intro k i _ q; simp at q
  | cons a l ih =>
    intro k i C q
    cases i with
    | zero =>
      have q2 : a = e := by simpa using q
      rw [← q2]
      exact C.1
    | succ i =>
      have q2 : l[i]? = some e := by simpa using q
      have := ih (k + 1) i C.2 q2
      rw [show k + (i + 1) = k + 1 + i by omega]
      exact this
theorem rule_no {a b : Int32} (h : a < 0 ∨ 3 < a ∨ b < 3 ∨ 8 < b) (e1 : 0 ≤ a) (e2 : a ≤ 3) (e3 : 3 ≤ b) (e4 : b ≤ 8) : False := by
  rcases h with q | q | q | q
  · exact (Int32.not_lt.mpr e1) q
  · exact (Int32.not_lt.mpr e2) q
  · exact (Int32.not_lt.mpr e3) q
  · exact (Int32.not_lt.mpr e4) q
theorem ab_no {x : Int32} {i : Nat} (hi : i < 12) (e : x = nI i) (h : x < 0 ∨ 11 < x) : False := by
  rw [e] at h
  rcases h with q | q
  · exact nI_pos (by omega) q
  · exact absurd (show nI 11 < nI i from q) (nI_nlt (by omega) (by omega))
set_option maxRecDepth 20000 in
theorem p1_write {s : Nat} {h : Nat → aE} {xs : Nat → Int32} {pA fA wA oA sA pB fB wB oB sB pC fC wC oC sC : Nat → Int32} {Ψ : Option Value → aH → Prop} (C : Cells h 0 (cSP pA fA wA oA sA pB fB wB oB sB pC fC wC oC sC 0)) (M_h : MAt h 190 mI0 (fun _ _ => 0) (fun _ => 0)) (F_h__aBig_9_ : h (aBig + 9) = .inl (1, 4, .inl xs)) (K : ∀ h2 : Nat → aE, h2 (aBig + 9) = .inl (1, 4, .inl xs) → WX (lk tLaw) (mM 10) Ψ 398 [(0, .ref (aBig + 9)), (1, .ref 0), (2, .ref 190), (3, .int 0)] [] (234, s, h2)) : WX (lk tLaw) (mM 10) Ψ 96 [(0, .ref (aBig + 9)), (1, .ref 0), (2, .ref 190), (3, .int 0)] [] (234, s, h) := by
  have hn : 190 ≤ 234 := by decide
  have hm : 190 + 43 < 234 := by decide
  have F_h_0 : h 0 = .inr (10, [.ref 1, .ref 3, .ref 5, .ref 7, .long 0, .ref 9, .ref 38, .ref 67, .ref 81, .ref 189, .int 2, .int 3]) := Cells.at_ _ 0 0 C rfl
  have F_h_1 : h 1 = .inr (7, [.ref 2, .int 0, .int 0, .long 0, .int 0]) := Cells.at_ _ 0 1 C rfl
  have F_h_2 : h 2 = .inl (0, 8000, .inl (fun _ => 0)) := Cells.at_ _ 0 2 C rfl
  refine WX.s1 rfl rfl ?_
  refine WX.s1 rfl rfl ?_
  refine WX.s1 rfl rfl ?_
  refine WX.s1 rfl rfl ?_
  refine WX.s1 rfl rfl ?_
  refine WX.iald1 rfl (Or.inr ⟨Nat.le_add_right _ _, Nat.add_lt_add_left (by decide) _⟩) (F_h__aBig_9_) (by unfold vp_in; decide) ?_
  refine WX.s1 rfl rfl ?_
  refine WX.s1 rfl rfl ?_
  refine WX.s1 rfl rfl ?_
  refine WX.s1 rfl rfl ?_
  refine WX.s1 rfl rfl ?_
  refine WX.s1 rfl rfl ?_
  refine WX.s1 rfl rfl ?_
  refine WX.iald1 rfl (Or.inr ⟨Nat.le_add_right _ _, Nat.add_lt_add_left (by decide) _⟩) (F_h__aBig_9_) (by unfold vp_in; decide) ?_
  refine WX.s1 rfl rfl ?_
  refine WX.s1 rfl rfl ?_
  refine WX.s1 rfl rfl ?_
  refine WX.s1 rfl rfl ?_
  refine WX.s1 rfl rfl ?_
  refine WX.s1 rfl rfl ?_
  refine WX.s1 rfl rfl ?_
  refine WX.s1 rfl rfl ?_
  refine WX.iald1 rfl (Or.inr ⟨Nat.le_add_right _ _, Nat.add_lt_add_left (by decide) _⟩) (F_h__aBig_9_) (by unfold vp_in; decide) ?_
  refine WX.callC (vs := [.ref 0, .long _, .int _]) rfl rfl rfl (Nat.le_of_ble_eq_true rfl) (rcv_ok (by decide) F_h_0) ?_
  refine x_write0 hn F_h_0 F_h_1 (RowN.of F_h_1 F_h_2) (fun hb => ?_) (fun h1 hg fr1 => ?_)
  · skip
    show WX _ _ _ 125 [(0, .ref (aBig + 9)), (1, .ref 0), (2, .ref 190), (3, .int 0)] [.int 0] (234, s, h)
    refine WX.s1 rfl rfl ?_
    refine WX.s1 rfl rfl ?_
    refine WX.s1 rfl rfl ?_
    refine WX.s1 rfl rfl ?_
    refine WX.s1 rfl rfl ?_
    refine WX.iald1 rfl (Or.inr ⟨Nat.le_add_right _ _, Nat.add_lt_add_left (by decide) _⟩) (F_h__aBig_9_) (by unfold vp_in; decide) ?_
    refine WX.s1 rfl rfl ?_
    refine WX.s1 rfl rfl ?_
    refine WX.s1 rfl rfl ?_
    refine WX.s1 rfl rfl ?_
    refine WX.s1 rfl rfl ?_
    refine WX.s1 rfl rfl ?_
    refine WX.s1 rfl rfl ?_
    refine WX.iald1 rfl (Or.inr ⟨Nat.le_add_right _ _, Nat.add_lt_add_left (by decide) _⟩) (F_h__aBig_9_) (by unfold vp_in; decide) ?_
    refine WX.s1 rfl rfl ?_
    refine WX.s1 rfl rfl ?_
    refine WX.s1 rfl rfl ?_
    refine WX.s1 rfl rfl ?_
    refine WX.s1 rfl rfl ?_
    refine WX.s1 rfl rfl ?_
    refine WX.s1 rfl rfl ?_
    refine WX.s1 rfl rfl ?_
    refine WX.iald1 rfl (Or.inr ⟨Nat.le_add_right _ _, Nat.add_lt_add_left (by decide) _⟩) (F_h__aBig_9_) (by unfold vp_in; decide) ?_
    refine WX.callC (vs := [.ref 190, .long _, .int _]) rfl rfl rfl (Nat.le_of_ble_eq_true rfl) (M_h.rcv hm) ?_
    refine m_write0 (m := 190) hm M_h (show mI0 1 = 0 by decide) (fun hb2 => ?_) (fun h2 hg2 fr2 => ?_)
    · skip
      show WX _ _ _ 154 [(0, .ref (aBig + 9)), (1, .ref 0), (2, .ref 190), (3, .int 0)] [.int 0, .int 0] (234, s, h)
      refine WX.icmp rfl (fun c_154 => ?_) (fun c_154 => absurd (by first | (exfalso; first | exact hg2 hb | exact hg hb2 | exact ab_no hi2 hx2 hb | exact ab_no hi hx hb2 | exact rule_no hb e1 e2 e3 e4 | exact rule_no hb2 g1 g2 g3 g4) | rfl | decide) c_154)
      exact K h F_h__aBig_9_
    · skip
      have F_h2__aBig_9_ : h2 (aBig + 9) = .inl (1, 4, .inl xs) := (fr2 _ (by decide)).trans F_h__aBig_9_
      show WX _ _ _ 154 [(0, .ref (aBig + 9)), (1, .ref 0), (2, .ref 190), (3, .int 0)] [.int 1, .int 0] (234, s, h2)
      refine WX.icmp rfl (fun c_154 => ?_) (fun c_154 => absurd (by first | (exfalso; first | exact hg2 hb | exact hg hb2 | exact ab_no hi2 hx2 hb | exact ab_no hi hx hb2 | exact rule_no hb e1 e2 e3 e4 | exact rule_no hb2 g1 g2 g3 g4) | rfl | decide) c_154)
      exact K h2 F_h2__aBig_9_
  · skip
    have F_h1__aBig_9_ : h1 (aBig + 9) = .inl (1, 4, .inl xs) := (fr1 _ (by decide)).trans F_h__aBig_9_
    have M_h1 : MAt h1 190 mI0 (fun _ _ => 0) (fun _ => 0) := MAt.zfr M_h fr1 (fun j hj q => by have h1 := hj.1; omega)
    show WX _ _ _ 125 [(0, .ref (aBig + 9)), (1, .ref 0), (2, .ref 190), (3, .int 0)] [.int 1] (234, s, h1)
    refine WX.s1 rfl rfl ?_
    refine WX.s1 rfl rfl ?_
    refine WX.s1 rfl rfl ?_
    refine WX.s1 rfl rfl ?_
    refine WX.s1 rfl rfl ?_
    refine WX.iald1 rfl (Or.inr ⟨Nat.le_add_right _ _, Nat.add_lt_add_left (by decide) _⟩) (F_h1__aBig_9_) (by unfold vp_in; decide) ?_
    refine WX.s1 rfl rfl ?_
    refine WX.s1 rfl rfl ?_
    refine WX.s1 rfl rfl ?_
    refine WX.s1 rfl rfl ?_
    refine WX.s1 rfl rfl ?_
    refine WX.s1 rfl rfl ?_
    refine WX.s1 rfl rfl ?_
    refine WX.iald1 rfl (Or.inr ⟨Nat.le_add_right _ _, Nat.add_lt_add_left (by decide) _⟩) (F_h1__aBig_9_) (by unfold vp_in; decide) ?_
    refine WX.s1 rfl rfl ?_
    refine WX.s1 rfl rfl ?_
    refine WX.s1 rfl rfl ?_
    refine WX.s1 rfl rfl ?_
    refine WX.s1 rfl rfl ?_
    refine WX.s1 rfl rfl ?_
    refine WX.s1 rfl rfl ?_
    refine WX.s1 rfl rfl ?_
    refine WX.iald1 rfl (Or.inr ⟨Nat.le_add_right _ _, Nat.add_lt_add_left (by decide) _⟩) (F_h1__aBig_9_) (by unfold vp_in; decide) ?_
    refine WX.callC (vs := [.ref 190, .long _, .int _]) rfl rfl rfl (Nat.le_of_ble_eq_true rfl) (M_h1.rcv hm) ?_
    refine m_write0 (m := 190) hm M_h1 (show mI0 1 = 0 by decide) (fun hb2 => ?_) (fun h2 hg2 fr2 => ?_)
    · skip
      show WX _ _ _ 154 [(0, .ref (aBig + 9)), (1, .ref 0), (2, .ref 190), (3, .int 0)] [.int 0, .int 1] (234, s, h1)
      refine WX.icmp rfl (fun c_154 => ?_) (fun c_154 => absurd (by first | (exfalso; first | exact hg2 hb | exact hg hb2 | exact ab_no hi2 hx2 hb | exact ab_no hi hx hb2 | exact rule_no hb e1 e2 e3 e4 | exact rule_no hb2 g1 g2 g3 g4) | rfl | decide) c_154)
      exact K h1 F_h1__aBig_9_
    · skip
      have F_h2__aBig_9_ : h2 (aBig + 9) = .inl (1, 4, .inl xs) := (fr2 _ (by decide)).trans F_h1__aBig_9_
      show WX _ _ _ 154 [(0, .ref (aBig + 9)), (1, .ref 0), (2, .ref 190), (3, .int 0)] [.int 1, .int 1] (234, s, h2)
      refine WX.icmp rfl (fun c_154 => ?_) (fun c_154 => absurd (by first | (exfalso; first | exact hg2 hb | exact hg hb2 | exact ab_no hi2 hx2 hb | exact ab_no hi hx hb2 | exact rule_no hb e1 e2 e3 e4 | exact rule_no hb2 g1 g2 g3 g4) | rfl | decide) c_154)
      exact K h2 F_h2__aBig_9_
set_option maxRecDepth 20000 in
theorem p1_again {s : Nat} {h : Nat → aE} {xs : Nat → Int32} {pA fA wA oA sA pB fB wB oB sB pC fC wC oC sC : Nat → Int32} {Ψ : Option Value → aH → Prop} (C : Cells h 0 (cSP pA fA wA oA sA pB fB wB oB sB pC fC wC oC sC 0)) (M_h : MAt h 190 mI0 (fun _ _ => 0) (fun _ => 0)) (F_h__aBig_9_ : h (aBig + 9) = .inl (1, 4, .inl xs)) (K : ∀ h2 : Nat → aE, h2 (aBig + 9) = .inl (1, 4, .inl xs) → WX (lk tLaw) (mM 10) Ψ 398 [(0, .ref (aBig + 9)), (1, .ref 0), (2, .ref 190), (3, .int 0)] [] (234, s, h2)) : WX (lk tLaw) (mM 10) Ψ 159 [(0, .ref (aBig + 9)), (1, .ref 0), (2, .ref 190), (3, .int 0)] [] (234, s, h) := by
  have hn : 190 ≤ 234 := by decide
  have hm : 190 + 43 < 234 := by decide
  have F_h_0 : h 0 = .inr (10, [.ref 1, .ref 3, .ref 5, .ref 7, .long 0, .ref 9, .ref 38, .ref 67, .ref 81, .ref 189, .int 2, .int 3]) := Cells.at_ _ 0 0 C rfl
  have F_h_1 : h 1 = .inr (7, [.ref 2, .int 0, .int 0, .long 0, .int 0]) := Cells.at_ _ 0 1 C rfl
  refine WX.s1 rfl rfl ?_
  refine WX.s1 rfl rfl ?_
  refine WX.s1 rfl rfl ?_
  refine WX.s1 rfl rfl ?_
  refine WX.s1 rfl rfl ?_
  refine WX.iald1 rfl (Or.inr ⟨Nat.le_add_right _ _, Nat.add_lt_add_left (by decide) _⟩) (F_h__aBig_9_) (by unfold vp_in; decide) ?_
  refine WX.s1 rfl rfl ?_
  refine WX.s1 rfl rfl ?_
  refine WX.s1 rfl rfl ?_
  refine WX.s1 rfl rfl ?_
  refine WX.iald1 rfl (Or.inr ⟨Nat.le_add_right _ _, Nat.add_lt_add_left (by decide) _⟩) (F_h__aBig_9_) (by unfold vp_in; decide) ?_
  refine WX.callC (vs := [.ref 0, .int _, .int _]) rfl rfl rfl (Nat.le_of_ble_eq_true rfl) (rcv_ok (by decide) F_h_0) ?_
  refine x_again0 hn F_h_0 F_h_1 ?_
  show WX _ _ _ 173 [(0, .ref (aBig + 9)), (1, .ref 0), (2, .ref 190), (3, .int 0)] [.int 0] (234, s, h)
  refine WX.s1 rfl rfl ?_
  refine WX.s1 rfl rfl ?_
  refine WX.s1 rfl rfl ?_
  refine WX.s1 rfl rfl ?_
  refine WX.s1 rfl rfl ?_
  refine WX.iald1 rfl (Or.inr ⟨Nat.le_add_right _ _, Nat.add_lt_add_left (by decide) _⟩) (F_h__aBig_9_) (by unfold vp_in; decide) ?_
  refine WX.s1 rfl rfl ?_
  refine WX.s1 rfl rfl ?_
  refine WX.s1 rfl rfl ?_
  refine WX.s1 rfl rfl ?_
  refine WX.iald1 rfl (Or.inr ⟨Nat.le_add_right _ _, Nat.add_lt_add_left (by decide) _⟩) (F_h__aBig_9_) (by unfold vp_in; decide) ?_
  refine WX.callC (vs := [.ref 190, .int _, .int _]) rfl rfl rfl (Nat.le_of_ble_eq_true rfl) (M_h.rcv hm) ?_
  refine m_again0 (m := 190) hm M_h (show mI0 1 = 0 by decide) ?_
  show WX _ _ _ 187 [(0, .ref (aBig + 9)), (1, .ref 0), (2, .ref 190), (3, .int 0)] [.int 0, .int 0] (234, s, h)
  refine WX.icmp rfl (fun c_187 => ?_) (fun c_187 => absurd (by first | (exfalso; first | exact hg2 hb | exact hg hb2 | exact ab_no hi2 hx2 hb | exact ab_no hi hx hb2 | exact rule_no hb e1 e2 e3 e4 | exact rule_no hb2 g1 g2 g3 g4) | rfl | decide) c_187)
  exact K h F_h__aBig_9_
set_option maxRecDepth 20000 in
theorem p1_clear {s : Nat} {h : Nat → aE} {xs : Nat → Int32} {pA fA wA oA sA pB fB wB oB sB pC fC wC oC sC : Nat → Int32} {Ψ : Option Value → aH → Prop} (C : Cells h 0 (cSP pA fA wA oA sA pB fB wB oB sB pC fC wC oC sC 0)) (M_h : MAt h 190 mI0 (fun _ _ => 0) (fun _ => 0)) (F_h__aBig_9_ : h (aBig + 9) = .inl (1, 4, .inl xs)) (K : ∀ h2 : Nat → aE, h2 (aBig + 9) = .inl (1, 4, .inl xs) → WX (lk tLaw) (mM 10) Ψ 398 [(0, .ref (aBig + 9)), (1, .ref 0), (2, .ref 190), (3, .int 0)] [] (234, s, h2)) : WX (lk tLaw) (mM 10) Ψ 192 [(0, .ref (aBig + 9)), (1, .ref 0), (2, .ref 190), (3, .int 0)] [] (234, s, h) := by
  have hn : 190 ≤ 234 := by decide
  have hm : 190 + 43 < 234 := by decide
  have F_h_0 : h 0 = .inr (10, [.ref 1, .ref 3, .ref 5, .ref 7, .long 0, .ref 9, .ref 38, .ref 67, .ref 81, .ref 189, .int 2, .int 3]) := Cells.at_ _ 0 0 C rfl
  have F_h_1 : h 1 = .inr (7, [.ref 2, .int 0, .int 0, .long 0, .int 0]) := Cells.at_ _ 0 1 C rfl
  have F_h_2 : h 2 = .inl (0, 8000, .inl (fun _ => 0)) := Cells.at_ _ 0 2 C rfl
  obtain ⟨l1, ho1, hd1, r1, -⟩ : RowN h 1 8000 0 := RowN.of F_h_1 F_h_2
  refine WX.s1 rfl rfl ?_
  refine WX.callC (vs := [.ref 0]) rfl rfl rfl (Nat.le_of_ble_eq_true rfl) (rcv_ok (by decide) F_h_0) ?_
  refine x_clear (k := 0) (ou := 3) (ne := 5) (sta := 9) (dra := 38) (id := 0) (way := 2) (least := 3) (by decide) F_h_0 r1 (fun h1 fr1 q1 => ?_)
  have F_h1__aBig_9_ : h1 (aBig + 9) = .inl (1, 4, .inl xs) := (fr1 _ (by decide)).trans F_h__aBig_9_
  have M_h1 : MAt h1 190 mI0 (fun _ _ => 0) (fun _ => 0) := MAt.zfr M_h fr1 (fun j hj q => by have h1 := hj.1; omega)
  show WX _ _ _ 196 [(0, .ref (aBig + 9)), (1, .ref 0), (2, .ref 190), (3, .int 0)] [] (234, s, h1)
  refine WX.s1 rfl rfl ?_
  refine WX.callC (vs := [.ref 190]) rfl rfl rfl (Nat.le_of_ble_eq_true rfl) (M_h1.rcv hm) ?_
  refine m_clear (m := 190) hm M_h1 (fun h2 I2 fr2 q2 q3 => ?_)
  have F_h2__aBig_9_ : h2 (aBig + 9) = .inl (1, 4, .inl xs) := (fr2 _ (by decide)).trans F_h1__aBig_9_
  show WX _ _ _ 200 [(0, .ref (aBig + 9)), (1, .ref 0), (2, .ref 190), (3, .int 0)] [] (234, s, h2)
  refine WX.s1 rfl rfl ?_
  exact K h2 F_h2__aBig_9_
set_option maxRecDepth 20000 in
theorem p1_turn {s : Nat} {h : Nat → aE} {xs : Nat → Int32} {pA fA wA oA sA pB fB wB oB sB pC fC wC oC sC : Nat → Int32} {Ψ : Option Value → aH → Prop} (C : Cells h 0 (cSP pA fA wA oA sA pB fB wB oB sB pC fC wC oC sC 0)) (M_h : MAt h 190 mI0 (fun _ _ => 0) (fun _ => 0)) (F_h__aBig_9_ : h (aBig + 9) = .inl (1, 4, .inl xs)) (K : ∀ h2 : Nat → aE, h2 (aBig + 9) = .inl (1, 4, .inl xs) → WX (lk tLaw) (mM 10) Ψ 398 [(0, .ref (aBig + 9)), (1, .ref 0), (2, .ref 190), (3, .int 0)] [] (234, s, h2)) : WX (lk tLaw) (mM 10) Ψ 203 [(0, .ref (aBig + 9)), (1, .ref 0), (2, .ref 190), (3, .int 0)] [] (234, s, h) := by
  have hn : 190 ≤ 234 := by decide
  have hm : 190 + 43 < 234 := by decide
  have F_h_0 : h 0 = .inr (10, [.ref 1, .ref 3, .ref 5, .ref 7, .long 0, .ref 9, .ref 38, .ref 67, .ref 81, .ref 189, .int 2, .int 3]) := Cells.at_ _ 0 0 C rfl
  have F_h_1 : h 1 = .inr (7, [.ref 2, .int 0, .int 0, .long 0, .int 0]) := Cells.at_ _ 0 1 C rfl
  have F_h_2 : h 2 = .inl (0, 8000, .inl (fun _ => 0)) := Cells.at_ _ 0 2 C rfl
  have F_h_3 : h 3 = .inr (7, [.ref 4, .int 0, .int 0, .long 0, .int 0]) := Cells.at_ _ 0 3 C rfl
  refine WX.s1 rfl rfl ?_
  refine WX.callC (vs := [.ref 0]) rfl rfl rfl (Nat.le_of_ble_eq_true rfl) (rcv_ok (by decide) F_h_0) ?_
  refine x_turn0 hn F_h_0 F_h_3 (RowN.of F_h_1 F_h_2) (fun h1 fr1 => ?_)
  have F_h1__aBig_9_ : h1 (aBig + 9) = .inl (1, 4, .inl xs) := (fr1 _ (by decide)).trans F_h__aBig_9_
  have M_h1 : MAt h1 190 mI0 (fun _ _ => 0) (fun _ => 0) := MAt.zfr M_h fr1 (fun j hj q => by have h1 := hj.1; omega)
  show WX _ _ _ 207 [(0, .ref (aBig + 9)), (1, .ref 0), (2, .ref 190), (3, .int 0)] [.int 1] (234, s, h1)
  refine WX.s1 rfl rfl ?_
  refine WX.callC (vs := [.ref 190]) rfl rfl rfl (Nat.le_of_ble_eq_true rfl) (M_h1.rcv hm) ?_
  refine m_turn0 (m := 190) hm M_h1 (show mI0 3 = 0 by decide) (fun h2 fr2 => ?_)
  have F_h2__aBig_9_ : h2 (aBig + 9) = .inl (1, 4, .inl xs) := (fr2 _ (by decide)).trans F_h1__aBig_9_
  show WX _ _ _ 211 [(0, .ref (aBig + 9)), (1, .ref 0), (2, .ref 190), (3, .int 0)] [.int 1, .int 1] (234, s, h2)
  refine WX.icmp rfl (fun c_211 => ?_) (fun c_211 => absurd (by first | (exfalso; first | exact hg2 hb | exact hg hb2 | exact ab_no hi2 hx2 hb | exact ab_no hi hx hb2 | exact rule_no hb e1 e2 e3 e4 | exact rule_no hb2 g1 g2 g3 g4) | rfl | decide) c_211)
  exact K h2 F_h2__aBig_9_
set_option maxRecDepth 20000 in
theorem p1_rule {s : Nat} {h : Nat → aE} {xs : Nat → Int32} {pA fA wA oA sA pB fB wB oB sB pC fC wC oC sC : Nat → Int32} {Ψ : Option Value → aH → Prop} (C : Cells h 0 (cSP pA fA wA oA sA pB fB wB oB sB pC fC wC oC sC 0)) (M_h : MAt h 190 mI0 (fun _ _ => 0) (fun _ => 0)) (F_h__aBig_9_ : h (aBig + 9) = .inl (1, 4, .inl xs)) (K : ∀ h2 : Nat → aE, h2 (aBig + 9) = .inl (1, 4, .inl xs) → WX (lk tLaw) (mM 10) Ψ 398 [(0, .ref (aBig + 9)), (1, .ref 0), (2, .ref 190), (3, .int 0)] [] (234, s, h2)) : WX (lk tLaw) (mM 10) Ψ 216 [(0, .ref (aBig + 9)), (1, .ref 0), (2, .ref 190), (3, .int 0)] [] (234, s, h) := by
  have hn : 190 ≤ 234 := by decide
  have hm : 190 + 43 < 234 := by decide
  have F_h_0 : h 0 = .inr (10, [.ref 1, .ref 3, .ref 5, .ref 7, .long 0, .ref 9, .ref 38, .ref 67, .ref 81, .ref 189, .int 2, .int 3]) := Cells.at_ _ 0 0 C rfl
  refine WX.s1 rfl rfl ?_
  refine WX.s1 rfl rfl ?_
  refine WX.s1 rfl rfl ?_
  refine WX.s1 rfl rfl ?_
  refine WX.s1 rfl rfl ?_
  refine WX.iald1 rfl (Or.inr ⟨Nat.le_add_right _ _, Nat.add_lt_add_left (by decide) _⟩) (F_h__aBig_9_) (by unfold vp_in; decide) ?_
  refine WX.s1 rfl rfl ?_
  refine WX.s1 rfl rfl ?_
  refine WX.s1 rfl rfl ?_
  refine WX.s1 rfl rfl ?_
  refine WX.iald1 rfl (Or.inr ⟨Nat.le_add_right _ _, Nat.add_lt_add_left (by decide) _⟩) (F_h__aBig_9_) (by unfold vp_in; decide) ?_
  refine WX.callC (vs := [.ref 0, .int _, .int _]) rfl rfl rfl (Nat.le_of_ble_eq_true rfl) (rcv_ok (by decide) F_h_0) ?_
  refine x_rule (k := 0) (ou := 3) (ne := 5) (sta := 9) (dra := 38) (id := 0) (way := 2) (least := 3) (by decide) F_h_0 (fun hb => ?_) (fun h1 g1 g2 g3 g4 fr1 q1 => ?_)
  · skip
    show WX _ _ _ 230 [(0, .ref (aBig + 9)), (1, .ref 0), (2, .ref 190), (3, .int 0)] [.int 0] (234, s, h)
    refine WX.s1 rfl rfl ?_
    refine WX.s1 rfl rfl ?_
    refine WX.s1 rfl rfl ?_
    refine WX.s1 rfl rfl ?_
    refine WX.s1 rfl rfl ?_
    refine WX.iald1 rfl (Or.inr ⟨Nat.le_add_right _ _, Nat.add_lt_add_left (by decide) _⟩) (F_h__aBig_9_) (by unfold vp_in; decide) ?_
    refine WX.s1 rfl rfl ?_
    refine WX.s1 rfl rfl ?_
    refine WX.s1 rfl rfl ?_
    refine WX.s1 rfl rfl ?_
    refine WX.iald1 rfl (Or.inr ⟨Nat.le_add_right _ _, Nat.add_lt_add_left (by decide) _⟩) (F_h__aBig_9_) (by unfold vp_in; decide) ?_
    refine WX.callC (vs := [.ref 190, .int _, .int _]) rfl rfl rfl (Nat.le_of_ble_eq_true rfl) (M_h.rcv hm) ?_
    refine m_rule (m := 190) hm M_h (fun hb2 => ?_) (fun h2 I2 e1 e2 e3 e4 fr2 q2 q3 => ?_)
    · skip
      show WX _ _ _ 244 [(0, .ref (aBig + 9)), (1, .ref 0), (2, .ref 190), (3, .int 0)] [.int 0, .int 0] (234, s, h)
      refine WX.icmp rfl (fun c_244 => ?_) (fun c_244 => absurd (by first | (exfalso; first | exact hg2 hb | exact hg hb2 | exact ab_no hi2 hx2 hb | exact ab_no hi hx hb2 | exact rule_no hb e1 e2 e3 e4 | exact rule_no hb2 g1 g2 g3 g4) | rfl | decide) c_244)
      exact K h F_h__aBig_9_
    · skip
      have F_h2__aBig_9_ : h2 (aBig + 9) = .inl (1, 4, .inl xs) := (fr2 _ (by decide)).trans F_h__aBig_9_
      show WX _ _ _ 244 [(0, .ref (aBig + 9)), (1, .ref 0), (2, .ref 190), (3, .int 0)] [.int 1, .int 0] (234, s, h2)
      refine WX.icmp rfl (fun c_244 => ?_) (fun c_244 => absurd (by first | (exfalso; first | exact hg2 hb | exact hg hb2 | exact ab_no hi2 hx2 hb | exact ab_no hi hx hb2 | exact rule_no hb e1 e2 e3 e4 | exact rule_no hb2 g1 g2 g3 g4) | rfl | decide) c_244)
      exact K h2 F_h2__aBig_9_
  · skip
    have F_h1__aBig_9_ : h1 (aBig + 9) = .inl (1, 4, .inl xs) := (fr1 _ (by decide)).trans F_h__aBig_9_
    have M_h1 : MAt h1 190 mI0 (fun _ _ => 0) (fun _ => 0) := MAt.zfr M_h fr1 (fun j hj q => by have h1 := hj.1; omega)
    show WX _ _ _ 230 [(0, .ref (aBig + 9)), (1, .ref 0), (2, .ref 190), (3, .int 0)] [.int 1] (234, s, h1)
    refine WX.s1 rfl rfl ?_
    refine WX.s1 rfl rfl ?_
    refine WX.s1 rfl rfl ?_
    refine WX.s1 rfl rfl ?_
    refine WX.s1 rfl rfl ?_
    refine WX.iald1 rfl (Or.inr ⟨Nat.le_add_right _ _, Nat.add_lt_add_left (by decide) _⟩) (F_h1__aBig_9_) (by unfold vp_in; decide) ?_
    refine WX.s1 rfl rfl ?_
    refine WX.s1 rfl rfl ?_
    refine WX.s1 rfl rfl ?_
    refine WX.s1 rfl rfl ?_
    refine WX.iald1 rfl (Or.inr ⟨Nat.le_add_right _ _, Nat.add_lt_add_left (by decide) _⟩) (F_h1__aBig_9_) (by unfold vp_in; decide) ?_
    refine WX.callC (vs := [.ref 190, .int _, .int _]) rfl rfl rfl (Nat.le_of_ble_eq_true rfl) (M_h1.rcv hm) ?_
    refine m_rule (m := 190) hm M_h1 (fun hb2 => ?_) (fun h2 I2 e1 e2 e3 e4 fr2 q2 q3 => ?_)
    · skip
      show WX _ _ _ 244 [(0, .ref (aBig + 9)), (1, .ref 0), (2, .ref 190), (3, .int 0)] [.int 0, .int 1] (234, s, h1)
      refine WX.icmp rfl (fun c_244 => ?_) (fun c_244 => absurd (by first | (exfalso; first | exact hg2 hb | exact hg hb2 | exact ab_no hi2 hx2 hb | exact ab_no hi hx hb2 | exact rule_no hb e1 e2 e3 e4 | exact rule_no hb2 g1 g2 g3 g4) | rfl | decide) c_244)
      exact K h1 F_h1__aBig_9_
    · skip
      have F_h2__aBig_9_ : h2 (aBig + 9) = .inl (1, 4, .inl xs) := (fr2 _ (by decide)).trans F_h1__aBig_9_
      show WX _ _ _ 244 [(0, .ref (aBig + 9)), (1, .ref 0), (2, .ref 190), (3, .int 0)] [.int 1, .int 1] (234, s, h2)
      refine WX.icmp rfl (fun c_244 => ?_) (fun c_244 => absurd (by first | (exfalso; first | exact hg2 hb | exact hg hb2 | exact ab_no hi2 hx2 hb | exact ab_no hi hx hb2 | exact rule_no hb e1 e2 e3 e4 | exact rule_no hb2 g1 g2 g3 g4) | rfl | decide) c_244)
      exact K h2 F_h2__aBig_9_
set_option maxRecDepth 20000 in
theorem p1_learn {s : Nat} {h : Nat → aE} {xs : Nat → Int32} {pA fA wA oA sA pB fB wB oB sB pC fC wC oC sC : Nat → Int32} {Ψ : Option Value → aH → Prop} (C : Cells h 0 (cSP pA fA wA oA sA pB fB wB oB sB pC fC wC oC sC 0)) (M_h : MAt h 190 mI0 (fun _ _ => 0) (fun _ => 0)) (F_h__aBig_9_ : h (aBig + 9) = .inl (1, 4, .inl xs)) (K : ∀ h2 : Nat → aE, h2 (aBig + 9) = .inl (1, 4, .inl xs) → WX (lk tLaw) (mM 10) Ψ 398 [(0, .ref (aBig + 9)), (1, .ref 0), (2, .ref 190), (3, .int 0)] [] (234, s, h2)) : WX (lk tLaw) (mM 10) Ψ 249 [(0, .ref (aBig + 9)), (1, .ref 0), (2, .ref 190), (3, .int 0)] [] (234, s, h) := by
  have hn : 190 ≤ 234 := by decide
  have hm : 190 + 43 < 234 := by decide
  have F_h_0 : h 0 = .inr (10, [.ref 1, .ref 3, .ref 5, .ref 7, .long 0, .ref 9, .ref 38, .ref 67, .ref 81, .ref 189, .int 2, .int 3]) := Cells.at_ _ 0 0 C rfl
  have F_h_1 : h 1 = .inr (7, [.ref 2, .int 0, .int 0, .long 0, .int 0]) := Cells.at_ _ 0 1 C rfl
  have F_h_2 : h 2 = .inl (0, 8000, .inl (fun _ => 0)) := Cells.at_ _ 0 2 C rfl
  have F_h_7 : h 7 = .inr (7, [.ref 8, .int 0, .int 0, .long 0, .int 0]) := Cells.at_ _ 0 7 C rfl
  have F_h_8 : h 8 = .inl (0, 8000, .inl (fun _ => 0)) := Cells.at_ _ 0 8 C rfl
  have F_h_38 : h 38 = .inr (9, [.ref 39, .ref 41, .ref 45, .ref 52, .ref 59, .ref 66]) := Cells.at_ _ 0 38 C rfl
  have F_h_41 : h 41 = .inr (0, [.ref 42, .ref 43, .ref 44, .int 0, .int 0]) := Cells.at_ _ 0 41 C rfl
  have F_h_45 : h 45 = .inr (8, [.int 35, .ref 46, .ref 47, .ref 48, .ref 49, .ref 50, .ref 51, .int 0, .int 0]) := Cells.at_ _ 0 45 C rfl
  have F_h_52 : h 52 = .inr (8, [.int 31, .ref 53, .ref 54, .ref 55, .ref 56, .ref 57, .ref 58, .int 0, .int 0]) := Cells.at_ _ 0 52 C rfl
  have F_h_59 : h 59 = .inr (8, [.int 52, .ref 60, .ref 61, .ref 62, .ref 63, .ref 64, .ref 65, .int 0, .int 0]) := Cells.at_ _ 0 59 C rfl
  have F_h_66 : h 66 = .inl (1, 3, .inl lat0) := Cells.at_ _ 0 66 C rfl
  refine WX.s1 rfl rfl ?_
  refine WX.callC (vs := [.ref 0]) rfl rfl rfl (Nat.le_of_ble_eq_true rfl) (rcv_ok (by decide) F_h_0) ?_
  refine x_learn0 hn F_h_0 F_h_1 F_h_38 F_h_41 F_h_45 F_h_52 F_h_59 F_h_66 (RowN.of F_h_1 F_h_2) (RowN.of F_h_7 F_h_8) (fun h1 fr1 => ?_)
  have F_h1__aBig_9_ : h1 (aBig + 9) = .inl (1, 4, .inl xs) := (fr1 _ (by decide)).trans F_h__aBig_9_
  have M_h1 : MAt h1 190 mI0 (fun _ _ => 0) (fun _ => 0) := MAt.zfr M_h fr1 (fun j hj q => by have h1 := hj.1; omega)
  show WX _ _ _ 253 [(0, .ref (aBig + 9)), (1, .ref 0), (2, .ref 190), (3, .int 0)] [.int 0] (234, s, h1)
  refine WX.s1 rfl rfl ?_
  refine WX.callC (vs := [.ref 190]) rfl rfl rfl (Nat.le_of_ble_eq_true rfl) (M_h1.rcv hm) ?_
  refine m_learn0 (m := 190) hm M_h1 (show mI0 1 = 0 by decide) (fun h2 fr2 => ?_)
  have F_h2__aBig_9_ : h2 (aBig + 9) = .inl (1, 4, .inl xs) := (fr2 _ (by decide)).trans F_h1__aBig_9_
  show WX _ _ _ 257 [(0, .ref (aBig + 9)), (1, .ref 0), (2, .ref 190), (3, .int 0)] [.int (0 - 0), .int 0] (234, s, h2)
  refine WX.icmp rfl (fun c_257 => ?_) (fun c_257 => absurd (by first | (exfalso; first | exact hg2 hb | exact hg hb2 | exact ab_no hi2 hx2 hb | exact ab_no hi hx hb2 | exact rule_no hb e1 e2 e3 e4 | exact rule_no hb2 g1 g2 g3 g4) | rfl | decide) c_257)
  exact K h2 F_h2__aBig_9_
set_option maxRecDepth 20000 in
theorem p1_forget {s : Nat} {h : Nat → aE} {xs : Nat → Int32} {pA fA wA oA sA pB fB wB oB sB pC fC wC oC sC : Nat → Int32} {Ψ : Option Value → aH → Prop} (C : Cells h 0 (cSP pA fA wA oA sA pB fB wB oB sB pC fC wC oC sC 0)) (M_h : MAt h 190 mI0 (fun _ _ => 0) (fun _ => 0)) (F_h__aBig_9_ : h (aBig + 9) = .inl (1, 4, .inl xs)) (K : ∀ h2 : Nat → aE, h2 (aBig + 9) = .inl (1, 4, .inl xs) → WX (lk tLaw) (mM 10) Ψ 398 [(0, .ref (aBig + 9)), (1, .ref 0), (2, .ref 190), (3, .int 0)] [] (234, s, h2)) : WX (lk tLaw) (mM 10) Ψ 262 [(0, .ref (aBig + 9)), (1, .ref 0), (2, .ref 190), (3, .int 0)] [] (234, s, h) := by
  have hn : 190 ≤ 234 := by decide
  have hm : 190 + 43 < 234 := by decide
  have F_h_0 : h 0 = .inr (10, [.ref 1, .ref 3, .ref 5, .ref 7, .long 0, .ref 9, .ref 38, .ref 67, .ref 81, .ref 189, .int 2, .int 3]) := Cells.at_ _ 0 0 C rfl
  have F_h_7 : h 7 = .inr (7, [.ref 8, .int 0, .int 0, .long 0, .int 0]) := Cells.at_ _ 0 7 C rfl
  have F_h_8 : h 8 = .inl (0, 8000, .inl (fun _ => 0)) := Cells.at_ _ 0 8 C rfl
  have F_h_9 : h 9 = .inr (9, [.ref 10, .ref 12, .ref 16, .ref 23, .ref 30, .ref 37]) := Cells.at_ _ 0 9 C rfl
  have F_h_12 : h 12 = .inr (0, [.ref 13, .ref 14, .ref 15, .int 0, .int 0]) := Cells.at_ _ 0 12 C rfl
  have F_h_16 : h 16 = .inr (8, [.int 35, .ref 17, .ref 18, .ref 19, .ref 20, .ref 21, .ref 22, .int 0, .int 0]) := Cells.at_ _ 0 16 C rfl
  have F_h_23 : h 23 = .inr (8, [.int 31, .ref 24, .ref 25, .ref 26, .ref 27, .ref 28, .ref 29, .int 0, .int 0]) := Cells.at_ _ 0 23 C rfl
  have F_h_30 : h 30 = .inr (8, [.int 52, .ref 31, .ref 32, .ref 33, .ref 34, .ref 35, .ref 36, .int 0, .int 0]) := Cells.at_ _ 0 30 C rfl
  have F_h_37 : h 37 = .inl (1, 3, .inl lat0) := Cells.at_ _ 0 37 C rfl
  refine WX.s1 rfl rfl ?_
  refine WX.callC (vs := [.ref 0]) rfl rfl rfl (Nat.le_of_ble_eq_true rfl) (rcv_ok (by decide) F_h_0) ?_
  refine x_forget0 hn F_h_0 F_h_9 F_h_12 F_h_16 F_h_23 F_h_30 F_h_37 (RowN.of F_h_7 F_h_8) (fun h1 fr1 => ?_)
  have F_h1__aBig_9_ : h1 (aBig + 9) = .inl (1, 4, .inl xs) := (fr1 _ (by decide)).trans F_h__aBig_9_
  have M_h1 : MAt h1 190 mI0 (fun _ _ => 0) (fun _ => 0) := MAt.zfr M_h fr1 (fun j hj q => by have h1 := hj.1; omega)
  show WX _ _ _ 266 [(0, .ref (aBig + 9)), (1, .ref 0), (2, .ref 190), (3, .int 0)] [] (234, s, h1)
  refine WX.s1 rfl rfl ?_
  refine WX.callC (vs := [.ref 190]) rfl rfl rfl (Nat.le_of_ble_eq_true rfl) (M_h1.rcv hm) ?_
  refine m_forget (m := 190) hm M_h1 (fun h2 I2 fr2 q2 q3 => ?_)
  have F_h2__aBig_9_ : h2 (aBig + 9) = .inl (1, 4, .inl xs) := (fr2 _ (by decide)).trans F_h1__aBig_9_
  show WX _ _ _ 270 [(0, .ref (aBig + 9)), (1, .ref 0), (2, .ref 190), (3, .int 0)] [] (234, s, h2)
  refine WX.s1 rfl rfl ?_
  exact K h2 F_h2__aBig_9_
set_option maxRecDepth 20000 in
theorem p1_press {s : Nat} {h : Nat → aE} {xs : Nat → Int32} {pA fA wA oA sA pB fB wB oB sB pC fC wC oC sC : Nat → Int32} {Ψ : Option Value → aH → Prop} (C : Cells h 0 (cSP pA fA wA oA sA pB fB wB oB sB pC fC wC oC sC 0)) (M_h : MAt h 190 mI0 (fun _ _ => 0) (fun _ => 0)) (F_h__aBig_9_ : h (aBig + 9) = .inl (1, 4, .inl xs)) (K : ∀ h2 : Nat → aE, h2 (aBig + 9) = .inl (1, 4, .inl xs) → WX (lk tLaw) (mM 10) Ψ 398 [(0, .ref (aBig + 9)), (1, .ref 0), (2, .ref 190), (3, .int 0)] [] (234, s, h2)) : WX (lk tLaw) (mM 10) Ψ 273 [(0, .ref (aBig + 9)), (1, .ref 0), (2, .ref 190), (3, .int 0)] [] (234, s, h) := by
  have hn : 190 ≤ 234 := by decide
  have hm : 190 + 43 < 234 := by decide
  have F_h_0 : h 0 = .inr (10, [.ref 1, .ref 3, .ref 5, .ref 7, .long 0, .ref 9, .ref 38, .ref 67, .ref 81, .ref 189, .int 2, .int 3]) := Cells.at_ _ 0 0 C rfl
  have F_h_1 : h 1 = .inr (7, [.ref 2, .int 0, .int 0, .long 0, .int 0]) := Cells.at_ _ 0 1 C rfl
  have F_h_2 : h 2 = .inl (0, 8000, .inl (fun _ => 0)) := Cells.at_ _ 0 2 C rfl
  have F_h_7 : h 7 = .inr (7, [.ref 8, .int 0, .int 0, .long 0, .int 0]) := Cells.at_ _ 0 7 C rfl
  have F_h_8 : h 8 = .inl (0, 8000, .inl (fun _ => 0)) := Cells.at_ _ 0 8 C rfl
  have F_h_9 : h 9 = .inr (9, [.ref 10, .ref 12, .ref 16, .ref 23, .ref 30, .ref 37]) := Cells.at_ _ 0 9 C rfl
  have F_h_12 : h 12 = .inr (0, [.ref 13, .ref 14, .ref 15, .int 0, .int 0]) := Cells.at_ _ 0 12 C rfl
  have F_h_37 : h 37 = .inl (1, 3, .inl lat0) := Cells.at_ _ 0 37 C rfl
  have F_h_81 : h 81 = .inr (6, [.ref 82, .ref 89, .ref 108, .ref 135, .ref 162, .ref 86, .ref 87, .int 0, .ref 88]) := Cells.at_ _ 0 81 C rfl
  have F_h_82 : h 82 = .inr (3, [.ref 83, .int 0, .ref 84, .ref 85, .int 0, .int 0, .int 0, .int 0, .int 0, .int 0, .int 0, .int 0, .int 0]) := Cells.at_ _ 0 82 C rfl
  have F_h_83 : h 83 = .inl (0, 16000, .inl (fun _ => 0)) := Cells.at_ _ 0 83 C rfl
  have F_h_85 : h 85 = .inl (1, 4096, .inl (fun _ => 0)) := Cells.at_ _ 0 85 C rfl
  have F_h_86 : h 86 = .inl (1, 3, .inl (fun _ => 0)) := Cells.at_ _ 0 86 C rfl
  have F_h_87 : h 87 = .inl (1, 3, .inl (fun _ => 0)) := Cells.at_ _ 0 87 C rfl
  have F_h_88 : h 88 = .inl (1, 12, .inl (fun _ => 0)) := Cells.at_ _ 0 88 C rfl
  have F_h_89 : h 89 = .inr (5, [.ref 90, .ref 91, .int 0, .ref 92, .ref 96, .ref 100, .ref 67, .ref 106, .int 0, .int 0, .int 0, .int 0]) := Cells.at_ _ 0 89 C rfl
  have F_h_91 : h 91 = .inl (1, 256, .inl (fun _ => 0)) := Cells.at_ _ 0 91 C rfl
  have F_h_92 : h 92 = .inr (0, [.ref 93, .ref 94, .ref 95, .int 0, .int 0]) := Cells.at_ _ 0 92 C rfl
  have F_h_189 : h 189 = .inl (1, 12, .inl (fun _ => 0)) := Cells.at_ _ 0 189 C rfl
  have F_h_108 : h 108 = .inr (1, [.ref (aBig + 3), .ref (aBig + 4), .int 9, .ref 109, .ref 110, .ref 113, .int 0, .int 0, .int 0, .ref 114, .ref 121, .ref 128, .ref 114, .ref 111, .int 0, .int 0, .int 0, .int 0]) := Cells.at_ _ 0 108 C rfl
  have F_h_113 : h 113 = .inl (1, 36, .inl (fun _ => 0)) := Cells.at_ _ 0 113 C rfl
  have F_h_121 : h 121 = .inr (8, [.int 35, .ref 122, .ref 123, .ref 124, .ref 125, .ref 126, .ref 127, .int 0, .int 0]) := Cells.at_ _ 0 121 C rfl
  have F_h_16 : h 16 = .inr (8, [.int 35, .ref 17, .ref 18, .ref 19, .ref 20, .ref 21, .ref 22, .int 0, .int 0]) := Cells.at_ _ 0 16 C rfl
  have F_h_135 : h 135 = .inr (1, [.ref (aBig + 5), .ref (aBig + 6), .int 8, .ref 136, .ref 137, .ref 140, .int 0, .int 0, .int 0, .ref 141, .ref 148, .ref 155, .ref 141, .ref 138, .int 0, .int 0, .int 0, .int 0]) := Cells.at_ _ 0 135 C rfl
  have F_h_140 : h 140 = .inl (1, 32, .inl (fun _ => 0)) := Cells.at_ _ 0 140 C rfl
  have F_h_148 : h 148 = .inr (8, [.int 31, .ref 149, .ref 150, .ref 151, .ref 152, .ref 153, .ref 154, .int 0, .int 0]) := Cells.at_ _ 0 148 C rfl
  have F_h_23 : h 23 = .inr (8, [.int 31, .ref 24, .ref 25, .ref 26, .ref 27, .ref 28, .ref 29, .int 0, .int 0]) := Cells.at_ _ 0 23 C rfl
  have F_h_162 : h 162 = .inr (1, [.ref (aBig + 7), .ref (aBig + 8), .int 9, .ref 163, .ref 164, .ref 167, .int 0, .int 0, .int 0, .ref 168, .ref 175, .ref 182, .ref 168, .ref 165, .int 0, .int 0, .int 0, .int 0]) := Cells.at_ _ 0 162 C rfl
  have F_h_167 : h 167 = .inl (1, 53, .inl (fun _ => 0)) := Cells.at_ _ 0 167 C rfl
  have F_h_175 : h 175 = .inr (8, [.int 52, .ref 176, .ref 177, .ref 178, .ref 179, .ref 180, .ref 181, .int 0, .int 0]) := Cells.at_ _ 0 175 C rfl
  have F_h_30 : h 30 = .inr (8, [.int 52, .ref 31, .ref 32, .ref 33, .ref 34, .ref 35, .ref 36, .int 0, .int 0]) := Cells.at_ _ 0 30 C rfl
  have F_h_5 : h 5 = .inr (7, [.ref 6, .int 0, .int 0, .long 0, .int 0]) := Cells.at_ _ 0 5 C rfl
  have F_h_6 : h 6 = .inl (0, 12000, .inl (fun _ => 0)) := Cells.at_ _ 0 6 C rfl
  refine WX.s1 rfl rfl ?_
  refine WX.s1 rfl rfl ?_
  refine WX.s1 rfl rfl ?_
  refine WX.s1 rfl rfl ?_
  refine WX.s1 rfl rfl ?_
  refine WX.iald1 rfl (Or.inr ⟨Nat.le_add_right _ _, Nat.add_lt_add_left (by decide) _⟩) (F_h__aBig_9_) (by unfold vp_in; decide) ?_
  refine WX.s1 rfl rfl ?_
  refine WX.s1 rfl rfl ?_
  refine WX.s1 rfl rfl ?_
  refine WX.s1 rfl rfl ?_
  refine WX.iald1 rfl (Or.inr ⟨Nat.le_add_right _ _, Nat.add_lt_add_left (by decide) _⟩) (F_h__aBig_9_) (by unfold vp_in; decide) ?_
  refine WX.s1 rfl rfl ?_
  refine WX.s1 rfl rfl ?_
  refine WX.s1 rfl rfl ?_
  refine WX.s1 rfl rfl ?_
  refine WX.iald1 rfl (Or.inr ⟨Nat.le_add_right _ _, Nat.add_lt_add_left (by decide) _⟩) (F_h__aBig_9_) (by unfold vp_in; decide) ?_
  refine WX.callC (vs := [.ref 0, .int _, .int _, .int _]) rfl rfl rfl (Nat.le_of_ble_eq_true rfl) (rcv_ok (by decide) F_h_0) ?_
  refine x_press0 hn F_h_0 F_h_1 F_h_2 F_h_7 F_h_8 F_h_9 F_h_12 F_h_37 F_h_81 F_h_82 F_h_83 F_h_85 F_h_86 F_h_87 F_h_88 F_h_89 F_h_91 F_h_92 F_h_189 F_h_108 F_h_113 F_h_121 F_h_16 F_h_135 F_h_140 F_h_148 F_h_23 F_h_162 F_h_167 F_h_175 F_h_30 (RowN.of F_h_5 F_h_6) (fun hb => ?_) (fun h1 hg fr1 => ?_)
  · skip
    show WX _ _ _ 292 [(0, .ref (aBig + 9)), (1, .ref 0), (2, .ref 190), (3, .int 0)] [.int (-1)] (234, s, h)
    refine WX.s1 rfl rfl ?_
    refine WX.s1 rfl rfl ?_
    refine WX.s1 rfl rfl ?_
    refine WX.s1 rfl rfl ?_
    refine WX.s1 rfl rfl ?_
    refine WX.iald1 rfl (Or.inr ⟨Nat.le_add_right _ _, Nat.add_lt_add_left (by decide) _⟩) (F_h__aBig_9_) (by unfold vp_in; decide) ?_
    refine WX.s1 rfl rfl ?_
    refine WX.s1 rfl rfl ?_
    refine WX.s1 rfl rfl ?_
    refine WX.s1 rfl rfl ?_
    refine WX.iald1 rfl (Or.inr ⟨Nat.le_add_right _ _, Nat.add_lt_add_left (by decide) _⟩) (F_h__aBig_9_) (by unfold vp_in; decide) ?_
    refine WX.s1 rfl rfl ?_
    refine WX.s1 rfl rfl ?_
    refine WX.s1 rfl rfl ?_
    refine WX.s1 rfl rfl ?_
    refine WX.iald1 rfl (Or.inr ⟨Nat.le_add_right _ _, Nat.add_lt_add_left (by decide) _⟩) (F_h__aBig_9_) (by unfold vp_in; decide) ?_
    refine WX.callC (vs := [.ref 190, .int _, .int _, .int _]) rfl rfl rfl (Nat.le_of_ble_eq_true rfl) (M_h.rcv hm) ?_
    refine m_press0 (m := 190) hm M_h (show mI0 1 = 0 by decide) (show mI0 8 = 0 by decide) (show mI0 7 = 0 by decide) (show mI0 9 = 0 by decide) (fun hb2 => ?_) (fun h2 hg2 fr2 => ?_)
    · skip
      show WX _ _ _ 311 [(0, .ref (aBig + 9)), (1, .ref 0), (2, .ref 190), (3, .int 0)] [.int (-1), .int (-1)] (234, s, h)
      refine WX.icmp rfl (fun c_311 => ?_) (fun c_311 => absurd (by first | (exfalso; first | exact hg2 hb | exact hg hb2 | exact ab_no hi2 hx2 hb | exact ab_no hi hx hb2 | exact rule_no hb e1 e2 e3 e4 | exact rule_no hb2 g1 g2 g3 g4) | rfl | decide) c_311)
      exact K h F_h__aBig_9_
    · skip
      have F_h2__aBig_9_ : h2 (aBig + 9) = .inl (1, 4, .inl xs) := (fr2 _ (by decide)).trans F_h__aBig_9_
      show WX _ _ _ 311 [(0, .ref (aBig + 9)), (1, .ref 0), (2, .ref 190), (3, .int 0)] [.int (nI (pCnt _)), .int (-1)] (234, s, h2)
      refine WX.icmp rfl (fun c_311 => ?_) (fun c_311 => absurd (by first | (exfalso; first | exact hg2 hb | exact hg hb2 | exact ab_no hi2 hx2 hb | exact ab_no hi hx hb2 | exact rule_no hb e1 e2 e3 e4 | exact rule_no hb2 g1 g2 g3 g4) | rfl | decide) c_311)
      exact K h2 F_h2__aBig_9_
  · skip
    have F_h1__aBig_9_ : h1 (aBig + 9) = .inl (1, 4, .inl xs) := (fr1 _ (by decide)).trans F_h__aBig_9_
    have M_h1 : MAt h1 190 mI0 (fun _ _ => 0) (fun _ => 0) := MAt.zfr M_h fr1 (fun j hj q => by have h1 := hj.1; omega)
    show WX _ _ _ 292 [(0, .ref (aBig + 9)), (1, .ref 0), (2, .ref 190), (3, .int 0)] [.int (nI (pCnt _))] (234, s, h1)
    refine WX.s1 rfl rfl ?_
    refine WX.s1 rfl rfl ?_
    refine WX.s1 rfl rfl ?_
    refine WX.s1 rfl rfl ?_
    refine WX.s1 rfl rfl ?_
    refine WX.iald1 rfl (Or.inr ⟨Nat.le_add_right _ _, Nat.add_lt_add_left (by decide) _⟩) (F_h1__aBig_9_) (by unfold vp_in; decide) ?_
    refine WX.s1 rfl rfl ?_
    refine WX.s1 rfl rfl ?_
    refine WX.s1 rfl rfl ?_
    refine WX.s1 rfl rfl ?_
    refine WX.iald1 rfl (Or.inr ⟨Nat.le_add_right _ _, Nat.add_lt_add_left (by decide) _⟩) (F_h1__aBig_9_) (by unfold vp_in; decide) ?_
    refine WX.s1 rfl rfl ?_
    refine WX.s1 rfl rfl ?_
    refine WX.s1 rfl rfl ?_
    refine WX.s1 rfl rfl ?_
    refine WX.iald1 rfl (Or.inr ⟨Nat.le_add_right _ _, Nat.add_lt_add_left (by decide) _⟩) (F_h1__aBig_9_) (by unfold vp_in; decide) ?_
    refine WX.callC (vs := [.ref 190, .int _, .int _, .int _]) rfl rfl rfl (Nat.le_of_ble_eq_true rfl) (M_h1.rcv hm) ?_
    refine m_press0 (m := 190) hm M_h1 (show mI0 1 = 0 by decide) (show mI0 8 = 0 by decide) (show mI0 7 = 0 by decide) (show mI0 9 = 0 by decide) (fun hb2 => ?_) (fun h2 hg2 fr2 => ?_)
    · skip
      show WX _ _ _ 311 [(0, .ref (aBig + 9)), (1, .ref 0), (2, .ref 190), (3, .int 0)] [.int (-1), .int (nI (pCnt _))] (234, s, h1)
      refine WX.icmp rfl (fun c_311 => ?_) (fun c_311 => absurd (by first | (exfalso; first | exact hg2 hb | exact hg hb2 | exact ab_no hi2 hx2 hb | exact ab_no hi hx hb2 | exact rule_no hb e1 e2 e3 e4 | exact rule_no hb2 g1 g2 g3 g4) | rfl | decide) c_311)
      exact K h1 F_h1__aBig_9_
    · skip
      have F_h2__aBig_9_ : h2 (aBig + 9) = .inl (1, 4, .inl xs) := (fr2 _ (by decide)).trans F_h1__aBig_9_
      show WX _ _ _ 311 [(0, .ref (aBig + 9)), (1, .ref 0), (2, .ref 190), (3, .int 0)] [.int (nI (pCnt _)), .int (nI (pCnt _))] (234, s, h2)
      refine WX.icmp rfl (fun c_311 => ?_) (fun c_311 => absurd (by first | (exfalso; first | exact hg2 hb | exact hg hb2 | exact ab_no hi2 hx2 hb | exact ab_no hi hx hb2 | exact rule_no hb e1 e2 e3 e4 | exact rule_no hb2 g1 g2 g3 g4) | rfl | decide) c_311)
      exact K h2 F_h2__aBig_9_
set_option maxRecDepth 20000 in
theorem p1_make {s : Nat} {h : Nat → aE} {xs : Nat → Int32} {pA fA wA oA sA pB fB wB oB sB pC fC wC oC sC : Nat → Int32} {Ψ : Option Value → aH → Prop} (C : Cells h 0 (cSP pA fA wA oA sA pB fB wB oB sB pC fC wC oC sC 0)) (M_h : MAt h 190 mI0 (fun _ _ => 0) (fun _ => 0)) (F_h__aBig_9_ : h (aBig + 9) = .inl (1, 4, .inl xs)) (K : ∀ h2 : Nat → aE, h2 (aBig + 9) = .inl (1, 4, .inl xs) → WX (lk tLaw) (mM 10) Ψ 398 [(0, .ref (aBig + 9)), (1, .ref 0), (2, .ref 190), (3, .int 0)] [] (234, s, h2)) : WX (lk tLaw) (mM 10) Ψ 316 [(0, .ref (aBig + 9)), (1, .ref 0), (2, .ref 190), (3, .int 0)] [] (234, s, h) := by
  have hn : 190 ≤ 234 := by decide
  have hm : 190 + 43 < 234 := by decide
  have F_h_0 : h 0 = .inr (10, [.ref 1, .ref 3, .ref 5, .ref 7, .long 0, .ref 9, .ref 38, .ref 67, .ref 81, .ref 189, .int 2, .int 3]) := Cells.at_ _ 0 0 C rfl
  have F_h_1 : h 1 = .inr (7, [.ref 2, .int 0, .int 0, .long 0, .int 0]) := Cells.at_ _ 0 1 C rfl
  refine WX.s1 rfl rfl ?_
  refine WX.s1 rfl rfl ?_
  refine WX.s1 rfl rfl ?_
  refine WX.s1 rfl rfl ?_
  refine WX.s1 rfl rfl ?_
  refine WX.iald1 rfl (Or.inr ⟨Nat.le_add_right _ _, Nat.add_lt_add_left (by decide) _⟩) (F_h__aBig_9_) (by unfold vp_in; decide) ?_
  refine WX.callC (vs := [.ref 0, .int _]) rfl rfl rfl (Nat.le_of_ble_eq_true rfl) (rcv_ok (by decide) F_h_0) ?_
  refine x_make0 hn F_h_0 F_h_1 ?_
  show WX _ _ _ 325 [(0, .ref (aBig + 9)), (1, .ref 0), (2, .ref 190), (3, .int 0)] [.int (-1)] (234, s, h)
  refine WX.s1 rfl rfl ?_
  refine WX.s1 rfl rfl ?_
  refine WX.s1 rfl rfl ?_
  refine WX.s1 rfl rfl ?_
  refine WX.s1 rfl rfl ?_
  refine WX.iald1 rfl (Or.inr ⟨Nat.le_add_right _ _, Nat.add_lt_add_left (by decide) _⟩) (F_h__aBig_9_) (by unfold vp_in; decide) ?_
  refine WX.callC (vs := [.ref 190, .int _]) rfl rfl rfl (Nat.le_of_ble_eq_true rfl) (M_h.rcv hm) ?_
  refine m_make0 (m := 190) hm M_h (show mI0 1 = 0 by decide) ?_
  show WX _ _ _ 334 [(0, .ref (aBig + 9)), (1, .ref 0), (2, .ref 190), (3, .int 0)] [.int (-1), .int (-1)] (234, s, h)
  refine WX.icmp rfl (fun c_334 => ?_) (fun c_334 => absurd (by first | (exfalso; first | exact hg2 hb | exact hg hb2 | exact ab_no hi2 hx2 hb | exact ab_no hi hx hb2 | exact rule_no hb e1 e2 e3 e4 | exact rule_no hb2 g1 g2 g3 g4) | rfl | decide) c_334)
  exact K h F_h__aBig_9_
set_option maxRecDepth 20000 in
theorem p1_about {s : Nat} {h : Nat → aE} {xs : Nat → Int32} {pA fA wA oA sA pB fB wB oB sB pC fC wC oC sC : Nat → Int32} {Ψ : Option Value → aH → Prop} (C : Cells h 0 (cSP pA fA wA oA sA pB fB wB oB sB pC fC wC oC sC 0)) (M_h : MAt h 190 mI0 (fun _ _ => 0) (fun _ => 0)) (F_h__aBig_9_ : h (aBig + 9) = .inl (1, 4, .inl xs)) (K : ∀ h2 : Nat → aE, h2 (aBig + 9) = .inl (1, 4, .inl xs) → WX (lk tLaw) (mM 10) Ψ 398 [(0, .ref (aBig + 9)), (1, .ref 0), (2, .ref 190), (3, .int 0)] [] (234, s, h2)) : WX (lk tLaw) (mM 10) Ψ 339 [(0, .ref (aBig + 9)), (1, .ref 0), (2, .ref 190), (3, .int 0)] [] (234, s, h) := by
  have hn : 190 ≤ 234 := by decide
  have hm : 190 + 43 < 234 := by decide
  have F_h_0 : h 0 = .inr (10, [.ref 1, .ref 3, .ref 5, .ref 7, .long 0, .ref 9, .ref 38, .ref 67, .ref 81, .ref 189, .int 2, .int 3]) := Cells.at_ _ 0 0 C rfl
  have F_h_189 : h 189 = .inl (1, 12, .inl (fun _ => 0)) := Cells.at_ _ 0 189 C rfl
  refine WX.s1 rfl rfl ?_
  refine WX.s1 rfl rfl ?_
  refine WX.s1 rfl rfl ?_
  refine WX.s1 rfl rfl ?_
  refine WX.s1 rfl rfl ?_
  refine WX.iald1 rfl (Or.inr ⟨Nat.le_add_right _ _, Nat.add_lt_add_left (by decide) _⟩) (F_h__aBig_9_) (by unfold vp_in; decide) ?_
  refine WX.callC (vs := [.ref 0, .int _]) rfl rfl rfl (Nat.le_of_ble_eq_true rfl) (rcv_ok (by decide) F_h_0) ?_
  refine x_about (k := 0) (ou := 3) (ne := 5) (sta := 9) (dra := 38) (id := 0) (way := 2) (least := 3) (by decide) F_h_0 F_h_189 (fun hb => ?_) (fun i hi hx => ?_)
  · skip
    show WX _ _ _ 348 [(0, .ref (aBig + 9)), (1, .ref 0), (2, .ref 190), (3, .int 0)] [.int (-1)] (234, s, h)
    refine WX.s1 rfl rfl ?_
    refine WX.s1 rfl rfl ?_
    refine WX.s1 rfl rfl ?_
    refine WX.s1 rfl rfl ?_
    refine WX.s1 rfl rfl ?_
    refine WX.iald1 rfl (Or.inr ⟨Nat.le_add_right _ _, Nat.add_lt_add_left (by decide) _⟩) (F_h__aBig_9_) (by unfold vp_in; decide) ?_
    refine WX.callC (vs := [.ref 190, .int _]) rfl rfl rfl (Nat.le_of_ble_eq_true rfl) (M_h.rcv hm) ?_
    refine m_about (m := 190) hm M_h (fun hb2 => ?_) (fun i2 hi2 hx2 => ?_)
    · skip
      show WX _ _ _ 357 [(0, .ref (aBig + 9)), (1, .ref 0), (2, .ref 190), (3, .int 0)] [.int (-1), .int (-1)] (234, s, h)
      refine WX.icmp rfl (fun c_357 => ?_) (fun c_357 => absurd (by first | (exfalso; first | exact hg2 hb | exact hg hb2 | exact ab_no hi2 hx2 hb | exact ab_no hi hx hb2 | exact rule_no hb e1 e2 e3 e4 | exact rule_no hb2 g1 g2 g3 g4) | rfl | decide) c_357)
      exact K h F_h__aBig_9_
    · skip
      show WX _ _ _ 357 [(0, .ref (aBig + 9)), (1, .ref 0), (2, .ref 190), (3, .int 0)] [.int 0, .int (-1)] (234, s, h)
      refine WX.icmp rfl (fun c_357 => ?_) (fun c_357 => absurd (by first | (exfalso; first | exact hg2 hb | exact hg hb2 | exact ab_no hi2 hx2 hb | exact ab_no hi hx hb2 | exact rule_no hb e1 e2 e3 e4 | exact rule_no hb2 g1 g2 g3 g4) | rfl | decide) c_357)
      exact K h F_h__aBig_9_
  · skip
    show WX _ _ _ 348 [(0, .ref (aBig + 9)), (1, .ref 0), (2, .ref 190), (3, .int 0)] [.int 0] (234, s, h)
    refine WX.s1 rfl rfl ?_
    refine WX.s1 rfl rfl ?_
    refine WX.s1 rfl rfl ?_
    refine WX.s1 rfl rfl ?_
    refine WX.s1 rfl rfl ?_
    refine WX.iald1 rfl (Or.inr ⟨Nat.le_add_right _ _, Nat.add_lt_add_left (by decide) _⟩) (F_h__aBig_9_) (by unfold vp_in; decide) ?_
    refine WX.callC (vs := [.ref 190, .int _]) rfl rfl rfl (Nat.le_of_ble_eq_true rfl) (M_h.rcv hm) ?_
    refine m_about (m := 190) hm M_h (fun hb2 => ?_) (fun i2 hi2 hx2 => ?_)
    · skip
      show WX _ _ _ 357 [(0, .ref (aBig + 9)), (1, .ref 0), (2, .ref 190), (3, .int 0)] [.int (-1), .int 0] (234, s, h)
      refine WX.icmp rfl (fun c_357 => ?_) (fun c_357 => absurd (by first | (exfalso; first | exact hg2 hb | exact hg hb2 | exact ab_no hi2 hx2 hb | exact ab_no hi hx hb2 | exact rule_no hb e1 e2 e3 e4 | exact rule_no hb2 g1 g2 g3 g4) | rfl | decide) c_357)
      exact K h F_h__aBig_9_
    · skip
      show WX _ _ _ 357 [(0, .ref (aBig + 9)), (1, .ref 0), (2, .ref 190), (3, .int 0)] [.int 0, .int 0] (234, s, h)
      refine WX.icmp rfl (fun c_357 => ?_) (fun c_357 => absurd (by first | (exfalso; first | exact hg2 hb | exact hg hb2 | exact ab_no hi2 hx2 hb | exact ab_no hi hx hb2 | exact rule_no hb e1 e2 e3 e4 | exact rule_no hb2 g1 g2 g3 g4) | rfl | decide) c_357)
      exact K h F_h__aBig_9_
set_option maxRecDepth 20000 in
theorem p1_size {s : Nat} {h : Nat → aE} {xs : Nat → Int32} {pA fA wA oA sA pB fB wB oB sB pC fC wC oC sC : Nat → Int32} {Ψ : Option Value → aH → Prop} (C : Cells h 0 (cSP pA fA wA oA sA pB fB wB oB sB pC fC wC oC sC 0)) (M_h : MAt h 190 mI0 (fun _ _ => 0) (fun _ => 0)) (F_h__aBig_9_ : h (aBig + 9) = .inl (1, 4, .inl xs)) (K : ∀ h2 : Nat → aE, h2 (aBig + 9) = .inl (1, 4, .inl xs) → WX (lk tLaw) (mM 10) Ψ 398 [(0, .ref (aBig + 9)), (1, .ref 0), (2, .ref 190), (3, .int 0)] [] (234, s, h2)) : WX (lk tLaw) (mM 10) Ψ 362 [(0, .ref (aBig + 9)), (1, .ref 0), (2, .ref 190), (3, .int 0)] [] (234, s, h) := by
  have hn : 190 ≤ 234 := by decide
  have hm : 190 + 43 < 234 := by decide
  have F_h_0 : h 0 = .inr (10, [.ref 1, .ref 3, .ref 5, .ref 7, .long 0, .ref 9, .ref 38, .ref 67, .ref 81, .ref 189, .int 2, .int 3]) := Cells.at_ _ 0 0 C rfl
  have F_h_3 : h 3 = .inr (7, [.ref 4, .int 0, .int 0, .long 0, .int 0]) := Cells.at_ _ 0 3 C rfl
  have F_h_4 : h 4 = .inl (0, 12000, .inl (fun _ => 0)) := Cells.at_ _ 0 4 C rfl
  refine WX.s1 rfl rfl ?_
  refine WX.callC (vs := [.ref 0]) rfl rfl rfl (Nat.le_of_ble_eq_true rfl) (rcv_ok (by decide) F_h_0) ?_
  refine x_size (k := 0) (ou := 3) (ne := 5) (sta := 9) (dra := 38) (id := 0) (way := 2) (least := 3) (N := 12000) (u := 0) (by decide) F_h_0 (by decide) ⟨F_h_3, F_h_4⟩ ?_
  show WX _ _ _ 366 [(0, .ref (aBig + 9)), (1, .ref 0), (2, .ref 190), (3, .int 0)] [.int (nI 0)] (234, s, h)
  refine WX.s1 rfl rfl ?_
  refine WX.callC (vs := [.ref 190]) rfl rfl rfl (Nat.le_of_ble_eq_true rfl) (M_h.rcv hm) ?_
  refine m_size (m := 190) hm M_h ?_
  show WX _ _ _ 370 [(0, .ref (aBig + 9)), (1, .ref 0), (2, .ref 190), (3, .int 0)] [.int (mI0 3), .int (nI 0)] (234, s, h)
  refine WX.icmp rfl (fun c_370 => ?_) (fun c_370 => absurd (by first | (exfalso; first | exact hg2 hb | exact hg hb2 | exact ab_no hi2 hx2 hb | exact ab_no hi hx hb2 | exact rule_no hb e1 e2 e3 e4 | exact rule_no hb2 g1 g2 g3 g4) | rfl | decide) c_370)
  exact K h F_h__aBig_9_
set_option maxRecDepth 20000 in
theorem p1_byteAt {s : Nat} {h : Nat → aE} {xs : Nat → Int32} {pA fA wA oA sA pB fB wB oB sB pC fC wC oC sC : Nat → Int32} {Ψ : Option Value → aH → Prop} (C : Cells h 0 (cSP pA fA wA oA sA pB fB wB oB sB pC fC wC oC sC 0)) (M_h : MAt h 190 mI0 (fun _ _ => 0) (fun _ => 0)) (F_h__aBig_9_ : h (aBig + 9) = .inl (1, 4, .inl xs)) (K : ∀ h2 : Nat → aE, h2 (aBig + 9) = .inl (1, 4, .inl xs) → WX (lk tLaw) (mM 10) Ψ 398 [(0, .ref (aBig + 9)), (1, .ref 0), (2, .ref 190), (3, .int 0)] [] (234, s, h2)) : WX (lk tLaw) (mM 10) Ψ 375 [(0, .ref (aBig + 9)), (1, .ref 0), (2, .ref 190), (3, .int 0)] [] (234, s, h) := by
  have hn : 190 ≤ 234 := by decide
  have hm : 190 + 43 < 234 := by decide
  have F_h_0 : h 0 = .inr (10, [.ref 1, .ref 3, .ref 5, .ref 7, .long 0, .ref 9, .ref 38, .ref 67, .ref 81, .ref 189, .int 2, .int 3]) := Cells.at_ _ 0 0 C rfl
  have F_h_3 : h 3 = .inr (7, [.ref 4, .int 0, .int 0, .long 0, .int 0]) := Cells.at_ _ 0 3 C rfl
  have F_h_4 : h 4 = .inl (0, 12000, .inl (fun _ => 0)) := Cells.at_ _ 0 4 C rfl
  refine WX.s1 rfl rfl ?_
  refine WX.s1 rfl rfl ?_
  refine WX.s1 rfl rfl ?_
  refine WX.s1 rfl rfl ?_
  refine WX.s1 rfl rfl ?_
  refine WX.iald1 rfl (Or.inr ⟨Nat.le_add_right _ _, Nat.add_lt_add_left (by decide) _⟩) (F_h__aBig_9_) (by unfold vp_in; decide) ?_
  refine WX.callC (vs := [.ref 0, .int _]) rfl rfl rfl (Nat.le_of_ble_eq_true rfl) (rcv_ok (by decide) F_h_0) ?_
  refine x_byteAt (k := 0) (ou := 3) (ne := 5) (sta := 9) (dra := 38) (id := 0) (way := 2) (least := 3) (N := 12000) (u := 0) (by decide) F_h_0 (by decide) ⟨F_h_3, F_h_4⟩ (by decide) (by decide) (fun i hx hi => ?_) (fun hb => ?_)
  · skip
    exact absurd hi (Nat.not_lt_zero _)
  · skip
    show WX _ _ _ 384 [(0, .ref (aBig + 9)), (1, .ref 0), (2, .ref 190), (3, .int 0)] [.int (-1)] (234, s, h)
    refine WX.s1 rfl rfl ?_
    refine WX.s1 rfl rfl ?_
    refine WX.s1 rfl rfl ?_
    refine WX.s1 rfl rfl ?_
    refine WX.s1 rfl rfl ?_
    refine WX.iald1 rfl (Or.inr ⟨Nat.le_add_right _ _, Nat.add_lt_add_left (by decide) _⟩) (F_h__aBig_9_) (by unfold vp_in; decide) ?_
    refine WX.callC (vs := [.ref 190, .int _]) rfl rfl rfl (Nat.le_of_ble_eq_true rfl) (M_h.rcv hm) ?_
    refine m_byteAt (u := 0) (m := 190) hm M_h (by decide) (by decide) (fun hb2 => ?_) (fun i2 hi2 hx2 => ?_)
    · skip
      show WX _ _ _ 393 [(0, .ref (aBig + 9)), (1, .ref 0), (2, .ref 190), (3, .int 0)] [.int (-1), .int (-1)] (234, s, h)
      refine WX.icmp rfl (fun c_393 => ?_) (fun c_393 => absurd (by first | (exfalso; first | exact hg2 hb | exact hg hb2 | exact ab_no hi2 hx2 hb | exact ab_no hi hx hb2 | exact rule_no hb e1 e2 e3 e4 | exact rule_no hb2 g1 g2 g3 g4) | rfl | decide) c_393)
      exact K h F_h__aBig_9_
    · skip
      exact absurd hi2 (Nat.not_lt_zero _)
set_option maxRecDepth 20000 in
theorem p1_iter {s : Nat} {h : Nat → aE} {xs : Nat → Int32} {pA fA wA oA sA pB fB wB oB sB pC fC wC oC sC : Nat → Int32} {Ψ : Option Value → aH → Prop} (C : Cells h 0 (cSP pA fA wA oA sA pB fB wB oB sB pC fC wC oC sC 0)) (M_h : MAt h 190 mI0 (fun _ _ => 0) (fun _ => 0)) (F_h__aBig_9_ : h (aBig + 9) = .inl (1, 4, .inl xs)) (K : ∀ h2 : Nat → aE, h2 (aBig + 9) = .inl (1, 4, .inl xs) → WX (lk tLaw) (mM 10) Ψ 398 [(0, .ref (aBig + 9)), (1, .ref 0), (2, .ref 190), (3, .int 0)] [] (234, s, h2)) : WX (lk tLaw) (mM 10) Ψ 26 [(0, .ref (aBig + 9)), (1, .ref 0), (2, .ref 190), (3, .int 0)] [] (234, s, h) := by
  refine WX.s1 rfl rfl ?_
  refine WX.s1 rfl rfl ?_
  refine WX.iald1 rfl (Or.inr ⟨Nat.le_add_right _ _, Nat.add_lt_add_left (by decide) _⟩) F_h__aBig_9_ (by unfold vp_in; decide) ?_
  refine WX.s1 rfl rfl ?_
  refine WX.s1 rfl rfl ?_
  refine WX.tsw0 rfl (K h F_h__aBig_9_) (fun j hj => ?_)
  obtain rfl | rfl | rfl | rfl | rfl | rfl | rfl | rfl | rfl | rfl | rfl | rfl : j = 0 ∨ j = 1 ∨ j = 2 ∨ j = 3 ∨ j = 4 ∨ j = 5 ∨ j = 6 ∨ j = 7 ∨ j = 8 ∨ j = 9 ∨ j = 10 ∨ j = 11 := by omega
  · exact p1_write C M_h F_h__aBig_9_ K
  · exact p1_again C M_h F_h__aBig_9_ K
  · exact p1_clear C M_h F_h__aBig_9_ K
  · exact p1_turn C M_h F_h__aBig_9_ K
  · exact p1_rule C M_h F_h__aBig_9_ K
  · exact p1_learn C M_h F_h__aBig_9_ K
  · exact p1_forget C M_h F_h__aBig_9_ K
  · exact p1_press C M_h F_h__aBig_9_ K
  · exact p1_make C M_h F_h__aBig_9_ K
  · exact p1_about C M_h F_h__aBig_9_ K
  · exact p1_size C M_h F_h__aBig_9_ K
  · exact p1_byteAt C M_h F_h__aBig_9_ K
theorem lsub4 {L : Nat} (hL : L ≤ 4) (h : ¬ nI L - 4 < 0) : L = 4 := by
  obtain rfl | rfl | rfl | rfl | rfl : L = 0 ∨ L = 1 ∨ L = 2 ∨ L = 3 ∨ L = 4 := by omega
  · exact absurd (show nI 0 - 4 < 0 by decide) h
  · exact absurd (show nI 1 - 4 < 0 by decide) h
  · exact absurd (show nI 2 - 4 < 0 by decide) h
  · exact absurd (show nI 3 - 4 < 0 by decide) h
  · rfl
set_option maxRecDepth 20000 in
theorem p1_loop {L s : Nat} {h : Nat → aE} {xs : Nat → Int32} {pA fA wA oA sA pB fB wB oB sB pC fC wC oC sC : Nat → Int32} {Ψ : Option Value → aH → Prop} (hL : L ≤ 4) (C : Cells h 0 (cSP pA fA wA oA sA pB fB wB oB sB pC fC wC oC sC 0)) (M_h : MAt h 190 mI0 (fun _ _ => 0) (fun _ => 0)) (F : h (aBig + 9) = .inl (1, L, .inl xs)) (K : ∀ h2 : Nat → aE, Ψ (some (.int 1)) (234, s, h2)) : WX (lk tLaw) (mM 10) Ψ 18 [(0, .ref (aBig + 9)), (1, .ref 0), (2, .ref 190), (3, .int 0)] [] (234, s, h) := by
  refine WX.s1 rfl rfl ?_
  refine WX.s1 rfl rfl ?_
  refine WX.len1 rfl (Or.inr ⟨Nat.le_add_right _ _, Nat.add_lt_add_left (by decide) _⟩) F ?_
  refine WX.s1 rfl rfl ?_
  refine WX.s1 rfl rfl ?_
  refine WX.icmp rfl (fun c => ?_) (fun c => ?_)
  · refine WX.s1 rfl rfl ?_
    exact WX.ret3 rfl (Or.inr rfl) (K h)
  · obtain rfl := lsub4 hL c
    refine p1_iter C M_h F (fun h2 F2 => ?_)
    refine WX.s1 (L' := [(0, .ref (aBig + 9)), (1, .ref 0), (2, .ref 190), (3, .int (0 + 4))]) rfl rfl ?_
    refine WX.s1 rfl rfl ?_
    refine WX.s1 rfl rfl ?_
    refine WX.s1 rfl rfl ?_
    refine WX.len1 rfl (Or.inr ⟨Nat.le_add_right _ _, Nat.add_lt_add_left (by decide) _⟩) F2 ?_
    refine WX.s1 rfl rfl ?_
    refine WX.s1 rfl rfl ?_
    refine WX.icmp rfl (fun c2 => ?_) (fun c2 => absurd (by decide) c2)
    refine WX.s1 rfl rfl ?_
    exact WX.ret3 rfl (Or.inr rfl) (K h2)
theorem sLen9 (L : Nat) : sLen L 9 = L := rfl
theorem law_runs {L : Nat} {xs : Nat → Int32} (hL : L ≤ 4) : ∃ n H', aX (lk tLaw) (mM 10) n 0 [(0, .ref (aBig + 9))] [] (H0 L xs) (some (.int 1)) H' ∧ H'.1 ≤ 600000 ∧ H'.2.1 ≤ 7302250 := by
  have w : WX (lk tLaw) (mM 10) (fun r H' => r = some (.int 1) ∧ H'.1 ≤ 600000 ∧ H'.2.1 ≤ 7302250) 0 [(0, .ref (aBig + 9))] [] (H0 L xs) := by
    refine law_start (fun h s pA fA wA oA sA pB fB wB oB sB pC fC wC oC sC hs C M F => ?_)
    refine p1_loop (xs := sVal xs 9) hL C M ?_ (fun h2 => ⟨rfl, ?_, ?_⟩)
    · rw [F _ (Nat.le_add_right _ _)]
      unfold H0
      show Sum.inl (1, sLen L (aBig + 9 - aBig), Sum.inl (sVal xs (aBig + 9 - aBig))) = _
      rw [Nat.add_sub_cancel_left]
      rfl
    · exact Nat.le_of_ble_eq_true rfl
    · exact Nat.le_trans hs (by decide)
  obtain ⟨n, r, H', hx, rfl, h1, h2⟩ := w
  exact ⟨n, H', hx, h1, h2⟩
