/-! the other calls of a new object: StatePress and the reference (rows laid by a program) -/
theorem nI_18 {x : Int32} (h1 : ¬ x < 1) (h8 : ¬ 8 < x) : ∃ q, 1 ≤ q ∧ q ≤ 8 ∧ x = nI q := by
  have a : ¬ x < 0 := fun z => h1 (Int32.lt_trans z (by decide))
  obtain ⟨j, hj, rfl⟩ := nI_of2 (M := 8) (n := 8) (by decide) a (Int32.not_lt.mp h8)
  refine ⟨j, ?_, hj, rfl⟩
  rcases Nat.eq_zero_or_pos j with z | z
  · exact absurd (show nI j < 1 by rw [z]; decide) h1
  · exact z
theorem wle {q : Nat} (h : q ≤ 8) : (0 : Int32) + nI q ≤ 8000 := by
  rw [Int32.zero_add]
  exact nI_le (b := 8000) (by omega) (by decide)
theorem lt0 {a : Int32} (h : ¬ a < 1) : (0 : Int32) < a := Int32.lt_of_lt_of_le (by decide) (Int32.not_lt.mp h)
set_option maxRecDepth 20000 in
theorem x_write0 {d n s : Nat} {h : Nat → aE} {x : Int64} {nn : Int32} (hn : 190 ≤ n)  (F_h_0 : h 0 = .inr (10, [.ref 1, .ref 3, .ref 5, .ref 7, .long 0, .ref 9, .ref 38, .ref 67, .ref 81, .ref 189, .int 2, .int 3])) (F_h_1 : h 1 = .inr (7, [.ref 2, .int 0, .int 0, .long 0, .int 0])) (P_h_in : RowN h 1 8000 0) {Ψ : Option Value → aH → Prop} (k0 : (nn < 1 ∨ 8 < nn) → Ψ (some (.int 0)) (n, s, h)) (k1 : ∀ h', ¬ (nn < 1 ∨ 8 < nn) → Fr h h' (fun j => j = 1 ∨ j = 2) → Ψ (some (.int 1)) (n, s, h')) : WO (mM (d + 2)) 124 [.ref 0, .long x, .int nn] (n, s, h) Ψ := by
  refine WO.of (Nat.le_of_ble_eq_true rfl) ?_
  have FR_h : Fr h h (fun j => j = 1 ∨ j = 2) := Fr.rf
  show WX (lk tX11_write) (mM (d + 1)) Ψ 0 [(0, .ref 0), (1, .long x), (3, .int nn)] [] (n, s, h)
  refine WX.s1 rfl rfl ?_
  refine WX.s1 rfl rfl ?_
  refine WX.icmp rfl (fun c_2 => ?_) (fun c_2 => ?_)
  · skip
    refine WX.s1 rfl rfl ?_
    exact WX.ret3 rfl (Or.inl rfl) (k0 (by first | exact Or.inl c_2 | exact Or.inr c_8))
  · skip
    refine WX.s1 rfl rfl ?_
    refine WX.s1 rfl rfl ?_
    refine WX.icmp rfl (fun c_8 => ?_) (fun c_8 => ?_)
    · skip
      refine WX.s1 rfl rfl ?_
      exact WX.ret3 rfl (Or.inl rfl) (k0 (by first | exact Or.inl c_2 | exact Or.inr c_8))
    · skip
      have hgood : ¬ (nn < 1 ∨ 8 < nn) := fun q => q.elim c_2 c_8
      obtain ⟨q, hq1, hq8, rfl⟩ := nI_18 c_2 c_8
      refine WX.s1 rfl rfl ?_
      refine WX.get1 (fs := [.ref 1, .ref 3, .ref 5, .ref 7, .long 0, .ref 9, .ref 38, .ref 67, .ref 81, .ref 189, .int 2, .int 3]) rfl (ltN hn (by decide)) (F_h_0) rfl ?_
      refine WX.get1 (fs := [.ref 2, .int 0, .int 0, .long 0, .int 0]) rfl (ltN hn (by decide)) (F_h_1) rfl ?_
      refine WX.s1 rfl rfl ?_
      refine WX.s1 rfl rfl ?_
      refine WX.s1 rfl rfl ?_
      refine WX.icmp rfl (fun c_23 => ?_) (fun c_23 => absurd (wle hq8) c_23)
      refine WX.s1 rfl rfl ?_
      refine WX.s1 (L' := [(0, .ref 0), (1, .long x), (3, .int (nI q)), (4, .int 0)]) rfl rfl ?_
      have lp : ∀ (t i : Nat) (hL : Nat → aE), i + t = q → Fr h hL (fun j => j = 1 ∨ j = 2) → RowN hL 1 8000 i → WX (lk tX11_write) (mM (d + 1)) Ψ 31 [(0, .ref 0), (1, .long x), (3, .int (nI q)), (4, .int (nI i))] [] (n, s, hL) := by
        have F0 := F_h_0
        clear F_h_0 F_h_1 P_h_in FR_h
        intro t
        induction t with
        | zero =>
          intro i hL ht FR_hL P_hL_in
          have F_hL_0 : hL 0 = .inr (10, [.ref 1, .ref 3, .ref 5, .ref 7, .long 0, .ref 9, .ref 38, .ref 67, .ref 81, .ref 189, .int 2, .int 3]) := (FR_hL 0 (by decide)).trans F0
          refine WX.s1 rfl rfl ?_
          refine WX.s1 rfl rfl ?_
          refine WX.icmp rfl (fun c_34 => ?_) (fun c_34 => absurd (nI_le (by omega) (by omega)) c_34)
          refine WX.s1 rfl rfl ?_
          exact WX.ret3 rfl (Or.inr rfl) (k1 hL hgood FR_hL)
        | succ t ih =>
          intro i hL ht FR_hL P_hL_in
          have F_hL_0 : hL 0 = .inr (10, [.ref 1, .ref 3, .ref 5, .ref 7, .long 0, .ref 9, .ref 38, .ref 67, .ref 81, .ref 189, .int 2, .int 3]) := (FR_hL 0 (by decide)).trans F0
          refine WX.s1 rfl rfl ?_
          refine WX.s1 rfl rfl ?_
          refine WX.icmp rfl (fun c_34 => absurd c_34 (nI_ge (by omega) (by omega))) (fun c_34 => ?_)
          refine WX.s1 rfl rfl ?_
          refine WX.get1 (fs := [.ref 1, .ref 3, .ref 5, .ref 7, .long 0, .ref 9, .ref 38, .ref 67, .ref 81, .ref 189, .int 2, .int 3]) rfl (ltN hn (by decide)) (F_hL_0) rfl ?_
          refine WX.s1 rfl rfl ?_
          refine WX.s1 rfl rfl ?_
          refine WX.s1 rfl rfl ?_
          refine WX.s1 rfl rfl ?_
          refine WX.s1 rfl rfl ?_
          refine WX.s1 rfl rfl ?_
          refine WX.s1 rfl rfl ?_
          refine WX.s1 rfl rfl ?_
          refine WX.callC (vs := [.ref 1, .int _]) rfl rfl rfl (Nat.le_of_ble_eq_true rfl) (P_hL_in.rcv (ltN hn (by decide))) ?_
          refine w_putN (ltN hn (by decide)) P_hL_in (by omega) (by decide) (fun h52 fr P_h52_in => ?_)
          have F_h52_0 : h52 0 = .inr (10, [.ref 1, .ref 3, .ref 5, .ref 7, .long 0, .ref 9, .ref 38, .ref 67, .ref 81, .ref 189, .int 2, .int 3]) := (fr _ (by first | decide | omega)).trans F_hL_0
          have FR_h52 : Fr h h52 (fun j => j = 1 ∨ j = 2) := FR_hL.ztr fr
          show WX _ _ _ 55 [(0, .ref 0), (1, .long x), (3, .int (nI q)), (4, .int (nI i))] [] (n, s, h52)
          refine WX.s1 (L' := [(0, .ref 0), (1, .long x), (3, .int (nI q)), (4, .int ((nI i) + 1))]) rfl rfl ?_
          refine WX.s1 rfl rfl ?_
          rw [nI_1 i]
          exact ih (i + 1) h52 (by omega) FR_h52 P_h52_in
      exact lp q 0 h (by omega) FR_h P_h_in
set_option maxRecDepth 20000 in
theorem x_again0 {d n s : Nat} {h : Nat → aE} {a b : Int32} (hn : 190 ≤ n)  (F_h_0 : h 0 = .inr (10, [.ref 1, .ref 3, .ref 5, .ref 7, .long 0, .ref 9, .ref 38, .ref 67, .ref 81, .ref 189, .int 2, .int 3])) (F_h_1 : h 1 = .inr (7, [.ref 2, .int 0, .int 0, .long 0, .int 0]))  {Ψ : Option Value → aH → Prop} (kk : Ψ (some (.int 0)) (n, s, h)) : WO (mM (d + 1)) 125 [.ref 0, .int a, .int b] (n, s, h) Ψ := by
  refine WO.of (Nat.le_of_ble_eq_true rfl) ?_
  show WX (lk tX11_again) (mM d) Ψ 0 [(0, .ref 0), (1, .int a), (2, .int b)] [] (n, s, h)
  refine WX.s1 rfl rfl ?_
  refine WX.s1 rfl rfl ?_
  refine WX.icmp rfl (fun c_2 => ?_) (fun c_2 => ?_)
  · skip
    refine WX.s1 rfl rfl ?_
    exact WX.ret3 rfl (Or.inl rfl) kk
  · skip
    refine WX.s1 rfl rfl ?_
    refine WX.s1 rfl rfl ?_
    refine WX.get1 (fs := [.ref 1, .ref 3, .ref 5, .ref 7, .long 0, .ref 9, .ref 38, .ref 67, .ref 81, .ref 189, .int 2, .int 3]) rfl (ltN hn (by decide)) (F_h_0) rfl ?_
    refine WX.get1 (fs := [.ref 2, .int 0, .int 0, .long 0, .int 0]) rfl (ltN hn (by decide)) (F_h_1) rfl ?_
    refine WX.icmp rfl (fun c_13 => ?_) (fun c_13 => absurd (lt0 c_2) c_13)
    refine WX.s1 rfl rfl ?_
    exact WX.ret3 rfl (Or.inl rfl) kk
set_option maxRecDepth 20000 in
theorem x_putRow0 {d n s : Nat} {h : Nat → aE} {k q : Nat} {sq hq : Int32} {oq : Int64} {N : Nat}  (hk : k < n) (hq2 : q < n) (F_h_q : h q = .inr (7, [.ref (q + 1), .int 0, .int sq, .long oq, .int hq])) (P_h_k : RowN h k N 0) {Ψ : Option Value → aH → Prop} (kk : Ψ none (n, s, h)) : WO (mM (d + 2)) 88 [.ref k, .ref q, .int 0, .int 0] (n, s, h) Ψ := by
  refine WO.of (Nat.le_of_ble_eq_true rfl) ?_
  show WX (lk tX7_putRow) (mM (d + 1)) Ψ 0 [(0, .ref k), (1, .ref q), (2, .int 0), (3, .int 0)] [] (n, s, h)
  refine WX.s1 rfl rfl ?_
  refine WX.s1 rfl rfl ?_
  refine WX.get1 (fs := [.ref (q + 1), .int 0, .int sq, .long oq, .int hq]) rfl (hq2) (F_h_q) rfl ?_
  refine WX.s1 rfl rfl ?_
  refine WX.s1 rfl rfl ?_
  refine WX.s1 rfl rfl ?_
  refine WX.get1 (fs := [.ref (q + 1), .int 0, .int sq, .long oq, .int hq]) rfl (hq2) (F_h_q) rfl ?_
  refine WX.s1 rfl rfl ?_
  refine WX.callC (vs := [.ref k, .ref (q + 1), .int 0, .int _]) rfl rfl rfl (Nat.le_of_ble_eq_true rfl) (P_h_k.rcv (hk)) ?_
  refine x_pcells0 (by decide) ?_
  show WX _ _ _ 17 [(0, .ref k), (1, .ref q), (2, .int 0), (3, .int 0)] [] (n, s, h)
  exact WX.ret0 rfl kk
set_option maxRecDepth 20000 in
theorem x_turn0 {d n s : Nat} {h : Nat → aE}  (hn : 190 ≤ n)  (F_h_0 : h 0 = .inr (10, [.ref 1, .ref 3, .ref 5, .ref 7, .long 0, .ref 9, .ref 38, .ref 67, .ref 81, .ref 189, .int 2, .int 3])) (F_h_3 : h 3 = .inr (7, [.ref 4, .int 0, .int 0, .long 0, .int 0])) (P_h_in : RowN h 1 8000 0) {Ψ : Option Value → aH → Prop} (kk : ∀ h', Fr h h' (fun j => j = 1) → Ψ (some (.int 1)) (n, s, h')) : WO (mM (d + 3)) 127 [.ref 0] (n, s, h) Ψ := by
  refine WO.of (Nat.le_of_ble_eq_true rfl) ?_
  have FR_h : Fr h h (fun j => j = 1) := Fr.rf
  show WX (lk tX11_turn) (mM (d + 2)) Ψ 0 [(0, .ref 0)] [] (n, s, h)
  refine WX.s1 rfl rfl ?_
  refine WX.get1 (fs := [.ref 1, .ref 3, .ref 5, .ref 7, .long 0, .ref 9, .ref 38, .ref 67, .ref 81, .ref 189, .int 2, .int 3]) rfl (ltN hn (by decide)) (F_h_0) rfl ?_
  refine WX.get1 (fs := [.ref 4, .int 0, .int 0, .long 0, .int 0]) rfl (ltN hn (by decide)) (F_h_3) rfl ?_
  refine WX.s1 rfl rfl ?_
  refine WX.icmp rfl (fun c_10 => ?_) (fun c_10 => absurd (by decide) c_10)
  clear c_10
  refine WX.s1 rfl rfl ?_
  refine WX.get1 (fs := [.ref 1, .ref 3, .ref 5, .ref 7, .long 0, .ref 9, .ref 38, .ref 67, .ref 81, .ref 189, .int 2, .int 3]) rfl (ltN hn (by decide)) (F_h_0) rfl ?_
  refine WX.callC (vs := [.ref 1]) rfl rfl rfl (Nat.le_of_ble_eq_true rfl) (P_h_in.rcv (ltN hn (by decide))) ?_
  refine w_dropN (ltN hn (by decide)) P_h_in (fun h19 fr P_h19_in => ?_)
  have F_h19_0 : h19 0 = .inr (10, [.ref 1, .ref 3, .ref 5, .ref 7, .long 0, .ref 9, .ref 38, .ref 67, .ref 81, .ref 189, .int 2, .int 3]) := (fr _ (by first | decide | omega)).trans F_h_0
  have F_h19_3 : h19 3 = .inr (7, [.ref 4, .int 0, .int 0, .long 0, .int 0]) := (fr _ (by first | decide | omega)).trans F_h_3
  have FR_h19 : Fr h h19 (fun j => j = 1) := FR_h.ztr fr
  show WX _ _ _ 22 [(0, .ref 0)] [] (n, s, h19)
  refine WX.s1 rfl rfl ?_
  refine WX.get1 (fs := [.ref 1, .ref 3, .ref 5, .ref 7, .long 0, .ref 9, .ref 38, .ref 67, .ref 81, .ref 189, .int 2, .int 3]) rfl (ltN hn (by decide)) (F_h19_0) rfl ?_
  refine WX.s1 rfl rfl ?_
  refine WX.get1 (fs := [.ref 1, .ref 3, .ref 5, .ref 7, .long 0, .ref 9, .ref 38, .ref 67, .ref 81, .ref 189, .int 2, .int 3]) rfl (ltN hn (by decide)) (F_h19_0) rfl ?_
  refine WX.s1 rfl rfl ?_
  refine WX.s1 rfl rfl ?_
  refine WX.get1 (fs := [.ref 1, .ref 3, .ref 5, .ref 7, .long 0, .ref 9, .ref 38, .ref 67, .ref 81, .ref 189, .int 2, .int 3]) rfl (ltN hn (by decide)) (F_h19_0) rfl ?_
  refine WX.get1 (fs := [.ref 4, .int 0, .int 0, .long 0, .int 0]) rfl (ltN hn (by decide)) (F_h19_3) rfl ?_
  refine WX.callC (vs := [.ref 1, .ref 3, .int 0, .int 0]) rfl rfl rfl (Nat.le_of_ble_eq_true rfl) (P_h19_in.rcv (ltN hn (by decide))) ?_
  refine x_putRow0 (ltN hn (by decide)) (ltN hn (by decide)) F_h19_3 P_h19_in ?_
  show WX _ _ _ 41 [(0, .ref 0)] [] (n, s, h19)
  refine WX.s1 rfl rfl ?_
  exact WX.ret3 rfl (Or.inr rfl) (kk h19 FR_h19)
set_option maxRecDepth 20000 in
theorem x_empty38 {d n s : Nat} {h : Nat → aE}  (hn : 190 ≤ n)  (F_h_38 : h 38 = .inr (9, [.ref 39, .ref 41, .ref 45, .ref 52, .ref 59, .ref 66])) (F_h_41 : h 41 = .inr (0, [.ref 42, .ref 43, .ref 44, .int 0, .int 0])) (F_h_45 : h 45 = .inr (8, [.int 35, .ref 46, .ref 47, .ref 48, .ref 49, .ref 50, .ref 51, .int 0, .int 0])) (F_h_52 : h 52 = .inr (8, [.int 31, .ref 53, .ref 54, .ref 55, .ref 56, .ref 57, .ref 58, .int 0, .int 0])) (F_h_59 : h 59 = .inr (8, [.int 52, .ref 60, .ref 61, .ref 62, .ref 63, .ref 64, .ref 65, .int 0, .int 0])) (F_h_66 : h 66 = .inl (1, 3, .inl lat0))  {Ψ : Option Value → aH → Prop} (kk : ∀ h', Fr h h' (fun j => 38 ≤ j ∧ j ≤ 66) → Ψ none (n, s, h')) : WO (mM (d + 1)) 117 [.ref 38] (n, s, h) Ψ := by
  refine WO.of (Nat.le_of_ble_eq_true rfl) ?_
  have FR_h : Fr h h (fun j => 38 ≤ j ∧ j ≤ 66) := Fr.rf
  show WX (lk tX9_empty) (mM d) Ψ 0 [(0, .ref 38)] [] (n, s, h)
  refine WX.s1 rfl rfl ?_
  refine WX.get1 (fs := [.ref 39, .ref 41, .ref 45, .ref 52, .ref 59, .ref 66]) rfl (ltN hn (by decide)) (F_h_38) rfl ?_
  refine WX.s1 rfl rfl ?_
  refine WX.put1 (fs := [.ref 42, .ref 43, .ref 44, .int 0, .int 0]) (fs' := [.ref 42, .ref 43, .ref 44, .int 0, .int 0]) rfl (ltN hn (by decide)) (F_h_41) (Nat.le_of_ble_eq_true rfl) (rfl) rfl (fun h5 e_h5 => ?_)
  have F_h5_38 : h5 38 = .inr (9, [.ref 39, .ref 41, .ref 45, .ref 52, .ref 59, .ref 66]) := by rw [e_h5, va_up_neq (by decide)]; exact F_h_38
  have F_h5_41 : h5 41 = .inr (0, [.ref 42, .ref 43, .ref 44, .int 0, .int 0]) := by rw [e_h5]; exact va_up_eq
  have F_h5_45 : h5 45 = .inr (8, [.int 35, .ref 46, .ref 47, .ref 48, .ref 49, .ref 50, .ref 51, .int 0, .int 0]) := by rw [e_h5, va_up_neq (by decide)]; exact F_h_45
  have F_h5_52 : h5 52 = .inr (8, [.int 31, .ref 53, .ref 54, .ref 55, .ref 56, .ref 57, .ref 58, .int 0, .int 0]) := by rw [e_h5, va_up_neq (by decide)]; exact F_h_52
  have F_h5_59 : h5 59 = .inr (8, [.int 52, .ref 60, .ref 61, .ref 62, .ref 63, .ref 64, .ref 65, .int 0, .int 0]) := by rw [e_h5, va_up_neq (by decide)]; exact F_h_59
  have F_h5_66 : h5 66 = .inl (1, 3, .inl lat0) := by rw [e_h5, va_up_neq (by decide)]; exact F_h_66
  have FR_h5 : Fr h h5 (fun j => 38 ≤ j ∧ j ≤ 66) := FR_h.zup e_h5 (by first | exact rfl | exact Or.inl rfl | exact Or.inr rfl | exact ⟨by decide, by decide⟩ | decide | omega)
  clear F_h_38 F_h_41 F_h_45 F_h_52 F_h_59 F_h_66 FR_h e_h5
  refine WX.s1 rfl rfl ?_
  refine WX.get1 (fs := [.ref 39, .ref 41, .ref 45, .ref 52, .ref 59, .ref 66]) rfl (ltN hn (by decide)) (F_h5_38) rfl ?_
  refine WX.s1 rfl rfl ?_
  refine WX.put1 (fs := [.int 35, .ref 46, .ref 47, .ref 48, .ref 49, .ref 50, .ref 51, .int 0, .int 0]) (fs' := [.int 35, .ref 46, .ref 47, .ref 48, .ref 49, .ref 50, .ref 51, .int 0, .int 0]) rfl (ltN hn (by decide)) (F_h5_45) (Nat.le_of_ble_eq_true rfl) (rfl) rfl (fun h13 e_h13 => ?_)
  have F_h13_38 : h13 38 = .inr (9, [.ref 39, .ref 41, .ref 45, .ref 52, .ref 59, .ref 66]) := by rw [e_h13, va_up_neq (by decide)]; exact F_h5_38
  have F_h13_41 : h13 41 = .inr (0, [.ref 42, .ref 43, .ref 44, .int 0, .int 0]) := by rw [e_h13, va_up_neq (by decide)]; exact F_h5_41
  have F_h13_45 : h13 45 = .inr (8, [.int 35, .ref 46, .ref 47, .ref 48, .ref 49, .ref 50, .ref 51, .int 0, .int 0]) := by rw [e_h13]; exact va_up_eq
  have F_h13_52 : h13 52 = .inr (8, [.int 31, .ref 53, .ref 54, .ref 55, .ref 56, .ref 57, .ref 58, .int 0, .int 0]) := by rw [e_h13, va_up_neq (by decide)]; exact F_h5_52
  have F_h13_59 : h13 59 = .inr (8, [.int 52, .ref 60, .ref 61, .ref 62, .ref 63, .ref 64, .ref 65, .int 0, .int 0]) := by rw [e_h13, va_up_neq (by decide)]; exact F_h5_59
  have F_h13_66 : h13 66 = .inl (1, 3, .inl lat0) := by rw [e_h13, va_up_neq (by decide)]; exact F_h5_66
  have FR_h13 : Fr h h13 (fun j => 38 ≤ j ∧ j ≤ 66) := FR_h5.zup e_h13 (by first | exact rfl | exact Or.inl rfl | exact Or.inr rfl | exact ⟨by decide, by decide⟩ | decide | omega)
  clear F_h5_38 F_h5_41 F_h5_45 F_h5_52 F_h5_59 F_h5_66 FR_h5 e_h13
  refine WX.s1 rfl rfl ?_
  refine WX.get1 (fs := [.ref 39, .ref 41, .ref 45, .ref 52, .ref 59, .ref 66]) rfl (ltN hn (by decide)) (F_h13_38) rfl ?_
  refine WX.s1 rfl rfl ?_
  refine WX.put1 (fs := [.int 31, .ref 53, .ref 54, .ref 55, .ref 56, .ref 57, .ref 58, .int 0, .int 0]) (fs' := [.int 31, .ref 53, .ref 54, .ref 55, .ref 56, .ref 57, .ref 58, .int 0, .int 0]) rfl (ltN hn (by decide)) (F_h13_52) (Nat.le_of_ble_eq_true rfl) (rfl) rfl (fun h21 e_h21 => ?_)
  have F_h21_38 : h21 38 = .inr (9, [.ref 39, .ref 41, .ref 45, .ref 52, .ref 59, .ref 66]) := by rw [e_h21, va_up_neq (by decide)]; exact F_h13_38
  have F_h21_41 : h21 41 = .inr (0, [.ref 42, .ref 43, .ref 44, .int 0, .int 0]) := by rw [e_h21, va_up_neq (by decide)]; exact F_h13_41
  have F_h21_45 : h21 45 = .inr (8, [.int 35, .ref 46, .ref 47, .ref 48, .ref 49, .ref 50, .ref 51, .int 0, .int 0]) := by rw [e_h21, va_up_neq (by decide)]; exact F_h13_45
  have F_h21_52 : h21 52 = .inr (8, [.int 31, .ref 53, .ref 54, .ref 55, .ref 56, .ref 57, .ref 58, .int 0, .int 0]) := by rw [e_h21]; exact va_up_eq
  have F_h21_59 : h21 59 = .inr (8, [.int 52, .ref 60, .ref 61, .ref 62, .ref 63, .ref 64, .ref 65, .int 0, .int 0]) := by rw [e_h21, va_up_neq (by decide)]; exact F_h13_59
  have F_h21_66 : h21 66 = .inl (1, 3, .inl lat0) := by rw [e_h21, va_up_neq (by decide)]; exact F_h13_66
  have FR_h21 : Fr h h21 (fun j => 38 ≤ j ∧ j ≤ 66) := FR_h13.zup e_h21 (by first | exact rfl | exact Or.inl rfl | exact Or.inr rfl | exact ⟨by decide, by decide⟩ | decide | omega)
  clear F_h13_38 F_h13_41 F_h13_45 F_h13_52 F_h13_59 F_h13_66 FR_h13 e_h21
  refine WX.s1 rfl rfl ?_
  refine WX.get1 (fs := [.ref 39, .ref 41, .ref 45, .ref 52, .ref 59, .ref 66]) rfl (ltN hn (by decide)) (F_h21_38) rfl ?_
  refine WX.s1 rfl rfl ?_
  refine WX.put1 (fs := [.int 52, .ref 60, .ref 61, .ref 62, .ref 63, .ref 64, .ref 65, .int 0, .int 0]) (fs' := [.int 52, .ref 60, .ref 61, .ref 62, .ref 63, .ref 64, .ref 65, .int 0, .int 0]) rfl (ltN hn (by decide)) (F_h21_59) (Nat.le_of_ble_eq_true rfl) (rfl) rfl (fun h29 e_h29 => ?_)
  have F_h29_38 : h29 38 = .inr (9, [.ref 39, .ref 41, .ref 45, .ref 52, .ref 59, .ref 66]) := by rw [e_h29, va_up_neq (by decide)]; exact F_h21_38
  have F_h29_41 : h29 41 = .inr (0, [.ref 42, .ref 43, .ref 44, .int 0, .int 0]) := by rw [e_h29, va_up_neq (by decide)]; exact F_h21_41
  have F_h29_45 : h29 45 = .inr (8, [.int 35, .ref 46, .ref 47, .ref 48, .ref 49, .ref 50, .ref 51, .int 0, .int 0]) := by rw [e_h29, va_up_neq (by decide)]; exact F_h21_45
  have F_h29_52 : h29 52 = .inr (8, [.int 31, .ref 53, .ref 54, .ref 55, .ref 56, .ref 57, .ref 58, .int 0, .int 0]) := by rw [e_h29, va_up_neq (by decide)]; exact F_h21_52
  have F_h29_59 : h29 59 = .inr (8, [.int 52, .ref 60, .ref 61, .ref 62, .ref 63, .ref 64, .ref 65, .int 0, .int 0]) := by rw [e_h29]; exact va_up_eq
  have F_h29_66 : h29 66 = .inl (1, 3, .inl lat0) := by rw [e_h29, va_up_neq (by decide)]; exact F_h21_66
  have FR_h29 : Fr h h29 (fun j => 38 ≤ j ∧ j ≤ 66) := FR_h21.zup e_h29 (by first | exact rfl | exact Or.inl rfl | exact Or.inr rfl | exact ⟨by decide, by decide⟩ | decide | omega)
  clear F_h21_38 F_h21_41 F_h21_45 F_h21_52 F_h21_59 F_h21_66 FR_h21 e_h29
  refine WX.s1 rfl rfl ?_
  refine WX.get1 (fs := [.ref 39, .ref 41, .ref 45, .ref 52, .ref 59, .ref 66]) rfl (ltN hn (by decide)) (F_h29_38) rfl ?_
  refine WX.s1 rfl rfl ?_
  refine WX.s1 rfl rfl ?_
  refine WX.iastN rfl (ltN hn (by decide)) (F_h29_66) (by unfold vp_in; decide) (fun g38 h38 e_g38 e_h38 => ?_)
  try dsimp only at e_g38
  have F_h38_38 : h38 38 = .inr (9, [.ref 39, .ref 41, .ref 45, .ref 52, .ref 59, .ref 66]) := by rw [e_h38, va_up_neq (by decide)]; exact F_h29_38
  have F_h38_41 : h38 41 = .inr (0, [.ref 42, .ref 43, .ref 44, .int 0, .int 0]) := by rw [e_h38, va_up_neq (by decide)]; exact F_h29_41
  have F_h38_45 : h38 45 = .inr (8, [.int 35, .ref 46, .ref 47, .ref 48, .ref 49, .ref 50, .ref 51, .int 0, .int 0]) := by rw [e_h38, va_up_neq (by decide)]; exact F_h29_45
  have F_h38_52 : h38 52 = .inr (8, [.int 31, .ref 53, .ref 54, .ref 55, .ref 56, .ref 57, .ref 58, .int 0, .int 0]) := by rw [e_h38, va_up_neq (by decide)]; exact F_h29_52
  have F_h38_59 : h38 59 = .inr (8, [.int 52, .ref 60, .ref 61, .ref 62, .ref 63, .ref 64, .ref 65, .int 0, .int 0]) := by rw [e_h38, va_up_neq (by decide)]; exact F_h29_59
  have F_h38_66 : h38 66 = .inl (1, 3, .inl g38) := by rw [e_h38]; exact va_up_eq
  have FR_h38 : Fr h h38 (fun j => 38 ≤ j ∧ j ≤ 66) := FR_h29.zup e_h38 (by first | exact rfl | exact Or.inl rfl | exact Or.inr rfl | exact ⟨by decide, by decide⟩ | decide | omega)
  clear F_h29_38 F_h29_41 F_h29_45 F_h29_52 F_h29_59 F_h29_66 FR_h29 e_h38
  refine WX.s1 rfl rfl ?_
  refine WX.get1 (fs := [.ref 39, .ref 41, .ref 45, .ref 52, .ref 59, .ref 66]) rfl (ltN hn (by decide)) (F_h38_38) rfl ?_
  refine WX.s1 rfl rfl ?_
  refine WX.s1 rfl rfl ?_
  refine WX.iastN rfl (ltN hn (by decide)) (F_h38_66) (by unfold vp_in; decide) (fun g45 h45 e_g45 e_h45 => ?_)
  try dsimp only at e_g45
  have F_h45_38 : h45 38 = .inr (9, [.ref 39, .ref 41, .ref 45, .ref 52, .ref 59, .ref 66]) := by rw [e_h45, va_up_neq (by decide)]; exact F_h38_38
  have F_h45_41 : h45 41 = .inr (0, [.ref 42, .ref 43, .ref 44, .int 0, .int 0]) := by rw [e_h45, va_up_neq (by decide)]; exact F_h38_41
  have F_h45_45 : h45 45 = .inr (8, [.int 35, .ref 46, .ref 47, .ref 48, .ref 49, .ref 50, .ref 51, .int 0, .int 0]) := by rw [e_h45, va_up_neq (by decide)]; exact F_h38_45
  have F_h45_52 : h45 52 = .inr (8, [.int 31, .ref 53, .ref 54, .ref 55, .ref 56, .ref 57, .ref 58, .int 0, .int 0]) := by rw [e_h45, va_up_neq (by decide)]; exact F_h38_52
  have F_h45_59 : h45 59 = .inr (8, [.int 52, .ref 60, .ref 61, .ref 62, .ref 63, .ref 64, .ref 65, .int 0, .int 0]) := by rw [e_h45, va_up_neq (by decide)]; exact F_h38_59
  have F_h45_66 : h45 66 = .inl (1, 3, .inl g45) := by rw [e_h45]; exact va_up_eq
  have FR_h45 : Fr h h45 (fun j => 38 ≤ j ∧ j ≤ 66) := FR_h38.zup e_h45 (by first | exact rfl | exact Or.inl rfl | exact Or.inr rfl | exact ⟨by decide, by decide⟩ | decide | omega)
  clear F_h38_38 F_h38_41 F_h38_45 F_h38_52 F_h38_59 F_h38_66 FR_h38 e_h45
  refine WX.s1 rfl rfl ?_
  refine WX.get1 (fs := [.ref 39, .ref 41, .ref 45, .ref 52, .ref 59, .ref 66]) rfl (ltN hn (by decide)) (F_h45_38) rfl ?_
  refine WX.s1 rfl rfl ?_
  refine WX.s1 rfl rfl ?_
  refine WX.iastN rfl (ltN hn (by decide)) (F_h45_66) (by unfold vp_in; decide) (fun g53 h53 e_g53 e_h53 => ?_)
  try dsimp only at e_g53
  have F_h53_38 : h53 38 = .inr (9, [.ref 39, .ref 41, .ref 45, .ref 52, .ref 59, .ref 66]) := by rw [e_h53, va_up_neq (by decide)]; exact F_h45_38
  have F_h53_41 : h53 41 = .inr (0, [.ref 42, .ref 43, .ref 44, .int 0, .int 0]) := by rw [e_h53, va_up_neq (by decide)]; exact F_h45_41
  have F_h53_45 : h53 45 = .inr (8, [.int 35, .ref 46, .ref 47, .ref 48, .ref 49, .ref 50, .ref 51, .int 0, .int 0]) := by rw [e_h53, va_up_neq (by decide)]; exact F_h45_45
  have F_h53_52 : h53 52 = .inr (8, [.int 31, .ref 53, .ref 54, .ref 55, .ref 56, .ref 57, .ref 58, .int 0, .int 0]) := by rw [e_h53, va_up_neq (by decide)]; exact F_h45_52
  have F_h53_59 : h53 59 = .inr (8, [.int 52, .ref 60, .ref 61, .ref 62, .ref 63, .ref 64, .ref 65, .int 0, .int 0]) := by rw [e_h53, va_up_neq (by decide)]; exact F_h45_59
  have F_h53_66 : h53 66 = .inl (1, 3, .inl g53) := by rw [e_h53]; exact va_up_eq
  have FR_h53 : Fr h h53 (fun j => 38 ≤ j ∧ j ≤ 66) := FR_h45.zup e_h53 (by first | exact rfl | exact Or.inl rfl | exact Or.inr rfl | exact ⟨by decide, by decide⟩ | decide | omega)
  clear F_h45_38 F_h45_41 F_h45_45 F_h45_52 F_h45_59 F_h45_66 FR_h45 e_h53
  exact WX.ret0 rfl (kk h53 FR_h53)
set_option maxRecDepth 20000 in
theorem x_empty9 {d n s : Nat} {h : Nat → aE}  (hn : 190 ≤ n)  (F_h_9 : h 9 = .inr (9, [.ref 10, .ref 12, .ref 16, .ref 23, .ref 30, .ref 37])) (F_h_12 : h 12 = .inr (0, [.ref 13, .ref 14, .ref 15, .int 0, .int 0])) (F_h_16 : h 16 = .inr (8, [.int 35, .ref 17, .ref 18, .ref 19, .ref 20, .ref 21, .ref 22, .int 0, .int 0])) (F_h_23 : h 23 = .inr (8, [.int 31, .ref 24, .ref 25, .ref 26, .ref 27, .ref 28, .ref 29, .int 0, .int 0])) (F_h_30 : h 30 = .inr (8, [.int 52, .ref 31, .ref 32, .ref 33, .ref 34, .ref 35, .ref 36, .int 0, .int 0])) (F_h_37 : h 37 = .inl (1, 3, .inl lat0))  {Ψ : Option Value → aH → Prop} (kk : ∀ h', Fr h h' (fun j => 9 ≤ j ∧ j ≤ 37) → Ψ none (n, s, h')) : WO (mM (d + 1)) 117 [.ref 9] (n, s, h) Ψ := by
  refine WO.of (Nat.le_of_ble_eq_true rfl) ?_
  have FR_h : Fr h h (fun j => 9 ≤ j ∧ j ≤ 37) := Fr.rf
  show WX (lk tX9_empty) (mM d) Ψ 0 [(0, .ref 9)] [] (n, s, h)
  refine WX.s1 rfl rfl ?_
  refine WX.get1 (fs := [.ref 10, .ref 12, .ref 16, .ref 23, .ref 30, .ref 37]) rfl (ltN hn (by decide)) (F_h_9) rfl ?_
  refine WX.s1 rfl rfl ?_
  refine WX.put1 (fs := [.ref 13, .ref 14, .ref 15, .int 0, .int 0]) (fs' := [.ref 13, .ref 14, .ref 15, .int 0, .int 0]) rfl (ltN hn (by decide)) (F_h_12) (Nat.le_of_ble_eq_true rfl) (rfl) rfl (fun h5 e_h5 => ?_)
  have F_h5_9 : h5 9 = .inr (9, [.ref 10, .ref 12, .ref 16, .ref 23, .ref 30, .ref 37]) := by rw [e_h5, va_up_neq (by decide)]; exact F_h_9
  have F_h5_12 : h5 12 = .inr (0, [.ref 13, .ref 14, .ref 15, .int 0, .int 0]) := by rw [e_h5]; exact va_up_eq
  have F_h5_16 : h5 16 = .inr (8, [.int 35, .ref 17, .ref 18, .ref 19, .ref 20, .ref 21, .ref 22, .int 0, .int 0]) := by rw [e_h5, va_up_neq (by decide)]; exact F_h_16
  have F_h5_23 : h5 23 = .inr (8, [.int 31, .ref 24, .ref 25, .ref 26, .ref 27, .ref 28, .ref 29, .int 0, .int 0]) := by rw [e_h5, va_up_neq (by decide)]; exact F_h_23
  have F_h5_30 : h5 30 = .inr (8, [.int 52, .ref 31, .ref 32, .ref 33, .ref 34, .ref 35, .ref 36, .int 0, .int 0]) := by rw [e_h5, va_up_neq (by decide)]; exact F_h_30
  have F_h5_37 : h5 37 = .inl (1, 3, .inl lat0) := by rw [e_h5, va_up_neq (by decide)]; exact F_h_37
  have FR_h5 : Fr h h5 (fun j => 9 ≤ j ∧ j ≤ 37) := FR_h.zup e_h5 (by first | exact rfl | exact Or.inl rfl | exact Or.inr rfl | exact ⟨by decide, by decide⟩ | decide | omega)
  clear F_h_9 F_h_12 F_h_16 F_h_23 F_h_30 F_h_37 FR_h e_h5
  refine WX.s1 rfl rfl ?_
  refine WX.get1 (fs := [.ref 10, .ref 12, .ref 16, .ref 23, .ref 30, .ref 37]) rfl (ltN hn (by decide)) (F_h5_9) rfl ?_
  refine WX.s1 rfl rfl ?_
  refine WX.put1 (fs := [.int 35, .ref 17, .ref 18, .ref 19, .ref 20, .ref 21, .ref 22, .int 0, .int 0]) (fs' := [.int 35, .ref 17, .ref 18, .ref 19, .ref 20, .ref 21, .ref 22, .int 0, .int 0]) rfl (ltN hn (by decide)) (F_h5_16) (Nat.le_of_ble_eq_true rfl) (rfl) rfl (fun h13 e_h13 => ?_)
  have F_h13_9 : h13 9 = .inr (9, [.ref 10, .ref 12, .ref 16, .ref 23, .ref 30, .ref 37]) := by rw [e_h13, va_up_neq (by decide)]; exact F_h5_9
  have F_h13_12 : h13 12 = .inr (0, [.ref 13, .ref 14, .ref 15, .int 0, .int 0]) := by rw [e_h13, va_up_neq (by decide)]; exact F_h5_12
  have F_h13_16 : h13 16 = .inr (8, [.int 35, .ref 17, .ref 18, .ref 19, .ref 20, .ref 21, .ref 22, .int 0, .int 0]) := by rw [e_h13]; exact va_up_eq
  have F_h13_23 : h13 23 = .inr (8, [.int 31, .ref 24, .ref 25, .ref 26, .ref 27, .ref 28, .ref 29, .int 0, .int 0]) := by rw [e_h13, va_up_neq (by decide)]; exact F_h5_23
  have F_h13_30 : h13 30 = .inr (8, [.int 52, .ref 31, .ref 32, .ref 33, .ref 34, .ref 35, .ref 36, .int 0, .int 0]) := by rw [e_h13, va_up_neq (by decide)]; exact F_h5_30
  have F_h13_37 : h13 37 = .inl (1, 3, .inl lat0) := by rw [e_h13, va_up_neq (by decide)]; exact F_h5_37
  have FR_h13 : Fr h h13 (fun j => 9 ≤ j ∧ j ≤ 37) := FR_h5.zup e_h13 (by first | exact rfl | exact Or.inl rfl | exact Or.inr rfl | exact ⟨by decide, by decide⟩ | decide | omega)
  clear F_h5_9 F_h5_12 F_h5_16 F_h5_23 F_h5_30 F_h5_37 FR_h5 e_h13
  refine WX.s1 rfl rfl ?_
  refine WX.get1 (fs := [.ref 10, .ref 12, .ref 16, .ref 23, .ref 30, .ref 37]) rfl (ltN hn (by decide)) (F_h13_9) rfl ?_
  refine WX.s1 rfl rfl ?_
  refine WX.put1 (fs := [.int 31, .ref 24, .ref 25, .ref 26, .ref 27, .ref 28, .ref 29, .int 0, .int 0]) (fs' := [.int 31, .ref 24, .ref 25, .ref 26, .ref 27, .ref 28, .ref 29, .int 0, .int 0]) rfl (ltN hn (by decide)) (F_h13_23) (Nat.le_of_ble_eq_true rfl) (rfl) rfl (fun h21 e_h21 => ?_)
  have F_h21_9 : h21 9 = .inr (9, [.ref 10, .ref 12, .ref 16, .ref 23, .ref 30, .ref 37]) := by rw [e_h21, va_up_neq (by decide)]; exact F_h13_9
  have F_h21_12 : h21 12 = .inr (0, [.ref 13, .ref 14, .ref 15, .int 0, .int 0]) := by rw [e_h21, va_up_neq (by decide)]; exact F_h13_12
  have F_h21_16 : h21 16 = .inr (8, [.int 35, .ref 17, .ref 18, .ref 19, .ref 20, .ref 21, .ref 22, .int 0, .int 0]) := by rw [e_h21, va_up_neq (by decide)]; exact F_h13_16
  have F_h21_23 : h21 23 = .inr (8, [.int 31, .ref 24, .ref 25, .ref 26, .ref 27, .ref 28, .ref 29, .int 0, .int 0]) := by rw [e_h21]; exact va_up_eq
  have F_h21_30 : h21 30 = .inr (8, [.int 52, .ref 31, .ref 32, .ref 33, .ref 34, .ref 35, .ref 36, .int 0, .int 0]) := by rw [e_h21, va_up_neq (by decide)]; exact F_h13_30
  have F_h21_37 : h21 37 = .inl (1, 3, .inl lat0) := by rw [e_h21, va_up_neq (by decide)]; exact F_h13_37
  have FR_h21 : Fr h h21 (fun j => 9 ≤ j ∧ j ≤ 37) := FR_h13.zup e_h21 (by first | exact rfl | exact Or.inl rfl | exact Or.inr rfl | exact ⟨by decide, by decide⟩ | decide | omega)
  clear F_h13_9 F_h13_12 F_h13_16 F_h13_23 F_h13_30 F_h13_37 FR_h13 e_h21
  refine WX.s1 rfl rfl ?_
  refine WX.get1 (fs := [.ref 10, .ref 12, .ref 16, .ref 23, .ref 30, .ref 37]) rfl (ltN hn (by decide)) (F_h21_9) rfl ?_
  refine WX.s1 rfl rfl ?_
  refine WX.put1 (fs := [.int 52, .ref 31, .ref 32, .ref 33, .ref 34, .ref 35, .ref 36, .int 0, .int 0]) (fs' := [.int 52, .ref 31, .ref 32, .ref 33, .ref 34, .ref 35, .ref 36, .int 0, .int 0]) rfl (ltN hn (by decide)) (F_h21_30) (Nat.le_of_ble_eq_true rfl) (rfl) rfl (fun h29 e_h29 => ?_)
  have F_h29_9 : h29 9 = .inr (9, [.ref 10, .ref 12, .ref 16, .ref 23, .ref 30, .ref 37]) := by rw [e_h29, va_up_neq (by decide)]; exact F_h21_9
  have F_h29_12 : h29 12 = .inr (0, [.ref 13, .ref 14, .ref 15, .int 0, .int 0]) := by rw [e_h29, va_up_neq (by decide)]; exact F_h21_12
  have F_h29_16 : h29 16 = .inr (8, [.int 35, .ref 17, .ref 18, .ref 19, .ref 20, .ref 21, .ref 22, .int 0, .int 0]) := by rw [e_h29, va_up_neq (by decide)]; exact F_h21_16
  have F_h29_23 : h29 23 = .inr (8, [.int 31, .ref 24, .ref 25, .ref 26, .ref 27, .ref 28, .ref 29, .int 0, .int 0]) := by rw [e_h29, va_up_neq (by decide)]; exact F_h21_23
  have F_h29_30 : h29 30 = .inr (8, [.int 52, .ref 31, .ref 32, .ref 33, .ref 34, .ref 35, .ref 36, .int 0, .int 0]) := by rw [e_h29]; exact va_up_eq
  have F_h29_37 : h29 37 = .inl (1, 3, .inl lat0) := by rw [e_h29, va_up_neq (by decide)]; exact F_h21_37
  have FR_h29 : Fr h h29 (fun j => 9 ≤ j ∧ j ≤ 37) := FR_h21.zup e_h29 (by first | exact rfl | exact Or.inl rfl | exact Or.inr rfl | exact ⟨by decide, by decide⟩ | decide | omega)
  clear F_h21_9 F_h21_12 F_h21_16 F_h21_23 F_h21_30 F_h21_37 FR_h21 e_h29
  refine WX.s1 rfl rfl ?_
  refine WX.get1 (fs := [.ref 10, .ref 12, .ref 16, .ref 23, .ref 30, .ref 37]) rfl (ltN hn (by decide)) (F_h29_9) rfl ?_
  refine WX.s1 rfl rfl ?_
  refine WX.s1 rfl rfl ?_
  refine WX.iastN rfl (ltN hn (by decide)) (F_h29_37) (by unfold vp_in; decide) (fun g38 h38 e_g38 e_h38 => ?_)
  try dsimp only at e_g38
  have F_h38_9 : h38 9 = .inr (9, [.ref 10, .ref 12, .ref 16, .ref 23, .ref 30, .ref 37]) := by rw [e_h38, va_up_neq (by decide)]; exact F_h29_9
  have F_h38_12 : h38 12 = .inr (0, [.ref 13, .ref 14, .ref 15, .int 0, .int 0]) := by rw [e_h38, va_up_neq (by decide)]; exact F_h29_12
  have F_h38_16 : h38 16 = .inr (8, [.int 35, .ref 17, .ref 18, .ref 19, .ref 20, .ref 21, .ref 22, .int 0, .int 0]) := by rw [e_h38, va_up_neq (by decide)]; exact F_h29_16
  have F_h38_23 : h38 23 = .inr (8, [.int 31, .ref 24, .ref 25, .ref 26, .ref 27, .ref 28, .ref 29, .int 0, .int 0]) := by rw [e_h38, va_up_neq (by decide)]; exact F_h29_23
  have F_h38_30 : h38 30 = .inr (8, [.int 52, .ref 31, .ref 32, .ref 33, .ref 34, .ref 35, .ref 36, .int 0, .int 0]) := by rw [e_h38, va_up_neq (by decide)]; exact F_h29_30
  have F_h38_37 : h38 37 = .inl (1, 3, .inl g38) := by rw [e_h38]; exact va_up_eq
  have FR_h38 : Fr h h38 (fun j => 9 ≤ j ∧ j ≤ 37) := FR_h29.zup e_h38 (by first | exact rfl | exact Or.inl rfl | exact Or.inr rfl | exact ⟨by decide, by decide⟩ | decide | omega)
  clear F_h29_9 F_h29_12 F_h29_16 F_h29_23 F_h29_30 F_h29_37 FR_h29 e_h38
  refine WX.s1 rfl rfl ?_
  refine WX.get1 (fs := [.ref 10, .ref 12, .ref 16, .ref 23, .ref 30, .ref 37]) rfl (ltN hn (by decide)) (F_h38_9) rfl ?_
  refine WX.s1 rfl rfl ?_
  refine WX.s1 rfl rfl ?_
  refine WX.iastN rfl (ltN hn (by decide)) (F_h38_37) (by unfold vp_in; decide) (fun g45 h45 e_g45 e_h45 => ?_)
  try dsimp only at e_g45
  have F_h45_9 : h45 9 = .inr (9, [.ref 10, .ref 12, .ref 16, .ref 23, .ref 30, .ref 37]) := by rw [e_h45, va_up_neq (by decide)]; exact F_h38_9
  have F_h45_12 : h45 12 = .inr (0, [.ref 13, .ref 14, .ref 15, .int 0, .int 0]) := by rw [e_h45, va_up_neq (by decide)]; exact F_h38_12
  have F_h45_16 : h45 16 = .inr (8, [.int 35, .ref 17, .ref 18, .ref 19, .ref 20, .ref 21, .ref 22, .int 0, .int 0]) := by rw [e_h45, va_up_neq (by decide)]; exact F_h38_16
  have F_h45_23 : h45 23 = .inr (8, [.int 31, .ref 24, .ref 25, .ref 26, .ref 27, .ref 28, .ref 29, .int 0, .int 0]) := by rw [e_h45, va_up_neq (by decide)]; exact F_h38_23
  have F_h45_30 : h45 30 = .inr (8, [.int 52, .ref 31, .ref 32, .ref 33, .ref 34, .ref 35, .ref 36, .int 0, .int 0]) := by rw [e_h45, va_up_neq (by decide)]; exact F_h38_30
  have F_h45_37 : h45 37 = .inl (1, 3, .inl g45) := by rw [e_h45]; exact va_up_eq
  have FR_h45 : Fr h h45 (fun j => 9 ≤ j ∧ j ≤ 37) := FR_h38.zup e_h45 (by first | exact rfl | exact Or.inl rfl | exact Or.inr rfl | exact ⟨by decide, by decide⟩ | decide | omega)
  clear F_h38_9 F_h38_12 F_h38_16 F_h38_23 F_h38_30 F_h38_37 FR_h38 e_h45
  refine WX.s1 rfl rfl ?_
  refine WX.get1 (fs := [.ref 10, .ref 12, .ref 16, .ref 23, .ref 30, .ref 37]) rfl (ltN hn (by decide)) (F_h45_9) rfl ?_
  refine WX.s1 rfl rfl ?_
  refine WX.s1 rfl rfl ?_
  refine WX.iastN rfl (ltN hn (by decide)) (F_h45_37) (by unfold vp_in; decide) (fun g53 h53 e_g53 e_h53 => ?_)
  try dsimp only at e_g53
  have F_h53_9 : h53 9 = .inr (9, [.ref 10, .ref 12, .ref 16, .ref 23, .ref 30, .ref 37]) := by rw [e_h53, va_up_neq (by decide)]; exact F_h45_9
  have F_h53_12 : h53 12 = .inr (0, [.ref 13, .ref 14, .ref 15, .int 0, .int 0]) := by rw [e_h53, va_up_neq (by decide)]; exact F_h45_12
  have F_h53_16 : h53 16 = .inr (8, [.int 35, .ref 17, .ref 18, .ref 19, .ref 20, .ref 21, .ref 22, .int 0, .int 0]) := by rw [e_h53, va_up_neq (by decide)]; exact F_h45_16
  have F_h53_23 : h53 23 = .inr (8, [.int 31, .ref 24, .ref 25, .ref 26, .ref 27, .ref 28, .ref 29, .int 0, .int 0]) := by rw [e_h53, va_up_neq (by decide)]; exact F_h45_23
  have F_h53_30 : h53 30 = .inr (8, [.int 52, .ref 31, .ref 32, .ref 33, .ref 34, .ref 35, .ref 36, .int 0, .int 0]) := by rw [e_h53, va_up_neq (by decide)]; exact F_h45_30
  have F_h53_37 : h53 37 = .inl (1, 3, .inl g53) := by rw [e_h53]; exact va_up_eq
  have FR_h53 : Fr h h53 (fun j => 9 ≤ j ∧ j ≤ 37) := FR_h45.zup e_h53 (by first | exact rfl | exact Or.inl rfl | exact Or.inr rfl | exact ⟨by decide, by decide⟩ | decide | omega)
  clear F_h45_9 F_h45_12 F_h45_16 F_h45_23 F_h45_30 F_h45_37 FR_h45 e_h53
  exact WX.ret0 rfl (kk h53 FR_h53)
set_option maxRecDepth 20000 in
theorem x_learn0 {d n s : Nat} {h : Nat → aE}  (hn : 190 ≤ n)  (F_h_0 : h 0 = .inr (10, [.ref 1, .ref 3, .ref 5, .ref 7, .long 0, .ref 9, .ref 38, .ref 67, .ref 81, .ref 189, .int 2, .int 3])) (F_h_1 : h 1 = .inr (7, [.ref 2, .int 0, .int 0, .long 0, .int 0])) (F_h_38 : h 38 = .inr (9, [.ref 39, .ref 41, .ref 45, .ref 52, .ref 59, .ref 66])) (F_h_41 : h 41 = .inr (0, [.ref 42, .ref 43, .ref 44, .int 0, .int 0])) (F_h_45 : h 45 = .inr (8, [.int 35, .ref 46, .ref 47, .ref 48, .ref 49, .ref 50, .ref 51, .int 0, .int 0])) (F_h_52 : h 52 = .inr (8, [.int 31, .ref 53, .ref 54, .ref 55, .ref 56, .ref 57, .ref 58, .int 0, .int 0])) (F_h_59 : h 59 = .inr (8, [.int 52, .ref 60, .ref 61, .ref 62, .ref 63, .ref 64, .ref 65, .int 0, .int 0])) (F_h_66 : h 66 = .inl (1, 3, .inl lat0)) (P_h_in : RowN h 1 8000 0) (P_h_co : RowN h 7 8000 0) {Ψ : Option Value → aH → Prop} (kk : ∀ h', Fr h h' (fun j => j < 190) → Ψ (some (.int 0)) (n, s, h')) : WO (mM (d + 3)) 129 [.ref 0] (n, s, h) Ψ := by
  refine WO.of (Nat.le_of_ble_eq_true rfl) ?_
  have FR_h : Fr h h (fun j => j < 190) := Fr.rf
  show WX (lk tX11_learn) (mM (d + 2)) Ψ 0 [(0, .ref 0)] [] (n, s, h)
  refine WX.s1 rfl rfl ?_
  refine WX.get1 (fs := [.ref 1, .ref 3, .ref 5, .ref 7, .long 0, .ref 9, .ref 38, .ref 67, .ref 81, .ref 189, .int 2, .int 3]) rfl (ltN hn (by decide)) (F_h_0) rfl ?_
  refine WX.get1 (fs := [.ref 2, .int 0, .int 0, .long 0, .int 0]) rfl (ltN hn (by decide)) (F_h_1) rfl ?_
  refine WX.s1 rfl rfl ?_
  refine WX.icmp rfl (fun c_8 => ?_) (fun c_8 => absurd (by decide) c_8)
  clear c_8
  refine WX.s1 rfl rfl ?_
  refine WX.s1 (L' := [(0, .ref 0), (1, .int 0)]) rfl rfl ?_
  refine WX.s1 rfl rfl ?_
  refine WX.get1 (fs := [.ref 1, .ref 3, .ref 5, .ref 7, .long 0, .ref 9, .ref 38, .ref 67, .ref 81, .ref 189, .int 2, .int 3]) rfl (ltN hn (by decide)) (F_h_0) rfl ?_
  refine WX.callC (vs := [.ref 38]) rfl rfl rfl (Nat.le_of_ble_eq_true rfl) (rcv_ok (ltN hn (by decide)) F_h_38) ?_
  refine x_empty38 hn F_h_38 F_h_41 F_h_45 F_h_52 F_h_59 F_h_66 (fun h37 fr => ?_)
  have F_h37_0 : h37 0 = .inr (10, [.ref 1, .ref 3, .ref 5, .ref 7, .long 0, .ref 9, .ref 38, .ref 67, .ref 81, .ref 189, .int 2, .int 3]) := (fr _ (by first | decide | omega)).trans F_h_0
  have F_h37_1 : h37 1 = .inr (7, [.ref 2, .int 0, .int 0, .long 0, .int 0]) := (fr _ (by first | decide | omega)).trans F_h_1
  have P_h37_in : RowN h37 1 8000 0 := P_h_in.zfr fr (by first | decide | omega) (by first | decide | omega)
  have P_h37_co : RowN h37 7 8000 0 := P_h_co.zfr fr (by first | decide | omega) (by first | decide | omega)
  have FR_h37 : Fr h h37 (fun j => j < 190) := FR_h.zsub fr (fun j hj => by omega)
  show WX _ _ _ 40 [(0, .ref 0), (1, .int 0)] [] (n, s, h37)
  refine WX.s1 rfl rfl ?_
  refine WX.if_ rfl (fun c_41 => ?_) (fun c_41 => absurd (by decide) c_41)
  clear c_41
  refine WX.s1 rfl rfl ?_
  refine WX.s1 (L' := [(0, .ref 0), (1, .int 0), (2, .int 0)]) rfl rfl ?_
  refine WX.s1 rfl rfl ?_
  refine WX.if_ rfl (fun c_65 => ?_) (fun c_65 => absurd (by decide) c_65)
  clear c_65
  refine WX.s1 rfl rfl ?_
  refine WX.s1 rfl rfl ?_
  refine WX.if_ rfl (fun c_72 => ?_) (fun c_72 => absurd (by decide) c_72)
  clear c_72
  refine WX.s1 rfl rfl ?_
  refine WX.put1 (fs := [.ref 1, .ref 3, .ref 5, .ref 7, .long 0, .ref 9, .ref 38, .ref 67, .ref 81, .ref 189, .int 2, .int 3]) (fs' := [.ref 1, .ref 3, .ref 5, .ref 7, .long 0, .ref 9, .ref 38, .ref 67, .ref 81, .ref 189, .int 2, .int 3]) rfl (ltN hn (by decide)) (F_h37_0) (Nat.le_of_ble_eq_true rfl) (rfl) rfl (fun h88 e_h88 => ?_)
  have F_h88_0 : h88 0 = .inr (10, [.ref 1, .ref 3, .ref 5, .ref 7, .long 0, .ref 9, .ref 38, .ref 67, .ref 81, .ref 189, .int 2, .int 3]) := by rw [e_h88]; exact va_up_eq
  have F_h88_1 : h88 1 = .inr (7, [.ref 2, .int 0, .int 0, .long 0, .int 0]) := by rw [e_h88, va_up_neq (by decide)]; exact F_h37_1
  have P_h88_in : RowN h88 1 8000 0 := P_h37_in.zfr (Fr.of e_h88) (by decide) (by decide)
  have P_h88_co : RowN h88 7 8000 0 := P_h37_co.zfr (Fr.of e_h88) (by decide) (by decide)
  have FR_h88 : Fr h h88 (fun j => j < 190) := FR_h37.zup e_h88 (by first | exact rfl | exact Or.inl rfl | exact Or.inr rfl | exact ⟨by decide, by decide⟩ | decide | omega)
  clear F_h37_0 F_h37_1 P_h37_in P_h37_co FR_h37 e_h88
  refine WX.s1 rfl rfl ?_
  refine WX.get1 (fs := [.ref 1, .ref 3, .ref 5, .ref 7, .long 0, .ref 9, .ref 38, .ref 67, .ref 81, .ref 189, .int 2, .int 3]) rfl (ltN hn (by decide)) (F_h88_0) rfl ?_
  refine WX.asN (L' := [(0, .ref 0), (1, .int 0), (2, .int 0), (3, .ref 9)]) rfl rfl ?_
  refine WX.s1 rfl rfl ?_
  refine WX.s1 rfl rfl ?_
  refine WX.get1 (fs := [.ref 1, .ref 3, .ref 5, .ref 7, .long 0, .ref 9, .ref 38, .ref 67, .ref 81, .ref 189, .int 2, .int 3]) rfl (ltN hn (by decide)) (F_h88_0) rfl ?_
  refine WX.put1 (fs := [.ref 1, .ref 3, .ref 5, .ref 7, .long 0, .ref 9, .ref 38, .ref 67, .ref 81, .ref 189, .int 2, .int 3]) (fs' := [.ref 1, .ref 3, .ref 5, .ref 7, .long 0, .ref 38, .ref 38, .ref 67, .ref 81, .ref 189, .int 2, .int 3]) rfl (ltN hn (by decide)) (F_h88_0) (Nat.le_of_ble_eq_true rfl) (rfl) rfl (fun h101 e_h101 => ?_)
  have F_h101_0 : h101 0 = .inr (10, [.ref 1, .ref 3, .ref 5, .ref 7, .long 0, .ref 38, .ref 38, .ref 67, .ref 81, .ref 189, .int 2, .int 3]) := by rw [e_h101]; exact va_up_eq
  have F_h101_1 : h101 1 = .inr (7, [.ref 2, .int 0, .int 0, .long 0, .int 0]) := by rw [e_h101, va_up_neq (by decide)]; exact F_h88_1
  have P_h101_in : RowN h101 1 8000 0 := P_h88_in.zfr (Fr.of e_h101) (by decide) (by decide)
  have P_h101_co : RowN h101 7 8000 0 := P_h88_co.zfr (Fr.of e_h101) (by decide) (by decide)
  have FR_h101 : Fr h h101 (fun j => j < 190) := FR_h88.zup e_h101 (by first | exact rfl | exact Or.inl rfl | exact Or.inr rfl | exact ⟨by decide, by decide⟩ | decide | omega)
  clear F_h88_0 F_h88_1 P_h88_in P_h88_co FR_h88 e_h101
  refine WX.s1 rfl rfl ?_
  refine WX.s1 rfl rfl ?_
  refine WX.put1 (fs := [.ref 1, .ref 3, .ref 5, .ref 7, .long 0, .ref 38, .ref 38, .ref 67, .ref 81, .ref 189, .int 2, .int 3]) (fs' := [.ref 1, .ref 3, .ref 5, .ref 7, .long 0, .ref 38, .ref 9, .ref 67, .ref 81, .ref 189, .int 2, .int 3]) rfl (ltN hn (by decide)) (F_h101_0) (Nat.le_of_ble_eq_true rfl) (rfl) rfl (fun h106 e_h106 => ?_)
  have F_h106_0 : h106 0 = .inr (10, [.ref 1, .ref 3, .ref 5, .ref 7, .long 0, .ref 38, .ref 9, .ref 67, .ref 81, .ref 189, .int 2, .int 3]) := by rw [e_h106]; exact va_up_eq
  have F_h106_1 : h106 1 = .inr (7, [.ref 2, .int 0, .int 0, .long 0, .int 0]) := by rw [e_h106, va_up_neq (by decide)]; exact F_h101_1
  have P_h106_in : RowN h106 1 8000 0 := P_h101_in.zfr (Fr.of e_h106) (by decide) (by decide)
  have P_h106_co : RowN h106 7 8000 0 := P_h101_co.zfr (Fr.of e_h106) (by decide) (by decide)
  have FR_h106 : Fr h h106 (fun j => j < 190) := FR_h101.zup e_h106 (by first | exact rfl | exact Or.inl rfl | exact Or.inr rfl | exact ⟨by decide, by decide⟩ | decide | omega)
  clear F_h101_0 F_h101_1 P_h101_in P_h101_co FR_h101 e_h106
  refine WX.s1 rfl rfl ?_
  refine WX.get1 (fs := [.ref 1, .ref 3, .ref 5, .ref 7, .long 0, .ref 38, .ref 9, .ref 67, .ref 81, .ref 189, .int 2, .int 3]) rfl (ltN hn (by decide)) (F_h106_0) rfl ?_
  refine WX.callC (vs := [.ref 7]) rfl rfl rfl (Nat.le_of_ble_eq_true rfl) (P_h106_co.rcv (ltN hn (by decide))) ?_
  refine w_dropN (ltN hn (by decide)) P_h106_co (fun h113 fr P_h113_co => ?_)
  have F_h113_0 : h113 0 = .inr (10, [.ref 1, .ref 3, .ref 5, .ref 7, .long 0, .ref 38, .ref 9, .ref 67, .ref 81, .ref 189, .int 2, .int 3]) := (fr _ (by first | decide | omega)).trans F_h106_0
  have F_h113_1 : h113 1 = .inr (7, [.ref 2, .int 0, .int 0, .long 0, .int 0]) := (fr _ (by first | decide | omega)).trans F_h106_1
  have P_h113_in : RowN h113 1 8000 0 := P_h106_in.zfr fr (by first | decide | omega) (by first | decide | omega)
  have FR_h113 : Fr h h113 (fun j => j < 190) := FR_h106.zsub fr (fun j hj => by omega)
  show WX _ _ _ 116 [(0, .ref 0), (1, .int 0), (2, .int 0), (3, .ref 9)] [] (n, s, h113)
  refine WX.s1 rfl rfl ?_
  refine WX.get1 (fs := [.ref 1, .ref 3, .ref 5, .ref 7, .long 0, .ref 38, .ref 9, .ref 67, .ref 81, .ref 189, .int 2, .int 3]) rfl (ltN hn (by decide)) (F_h113_0) rfl ?_
  refine WX.s1 rfl rfl ?_
  refine WX.get1 (fs := [.ref 1, .ref 3, .ref 5, .ref 7, .long 0, .ref 38, .ref 9, .ref 67, .ref 81, .ref 189, .int 2, .int 3]) rfl (ltN hn (by decide)) (F_h113_0) rfl ?_
  refine WX.s1 rfl rfl ?_
  refine WX.s1 rfl rfl ?_
  refine WX.get1 (fs := [.ref 1, .ref 3, .ref 5, .ref 7, .long 0, .ref 38, .ref 9, .ref 67, .ref 81, .ref 189, .int 2, .int 3]) rfl (ltN hn (by decide)) (F_h113_0) rfl ?_
  refine WX.get1 (fs := [.ref 2, .int 0, .int 0, .long 0, .int 0]) rfl (ltN hn (by decide)) (F_h113_1) rfl ?_
  refine WX.callC (vs := [.ref 7, .ref 1, .int 0, .int 0]) rfl rfl rfl (Nat.le_of_ble_eq_true rfl) (P_h113_co.rcv (ltN hn (by decide))) ?_
  refine x_putRow0 (ltN hn (by decide)) (ltN hn (by decide)) F_h113_1 P_h113_co ?_
  show WX _ _ _ 135 [(0, .ref 0), (1, .int 0), (2, .int 0), (3, .ref 9)] [] (n, s, h113)
  refine WX.s1 rfl rfl ?_
  refine WX.get1 (fs := [.ref 1, .ref 3, .ref 5, .ref 7, .long 0, .ref 38, .ref 9, .ref 67, .ref 81, .ref 189, .int 2, .int 3]) rfl (ltN hn (by decide)) (F_h113_0) rfl ?_
  refine WX.callC (vs := [.ref 1]) rfl rfl rfl (Nat.le_of_ble_eq_true rfl) (P_h113_in.rcv (ltN hn (by decide))) ?_
  refine w_dropN (ltN hn (by decide)) P_h113_in (fun h139 fr P_h139_in => ?_)
  have F_h139_0 : h139 0 = .inr (10, [.ref 1, .ref 3, .ref 5, .ref 7, .long 0, .ref 38, .ref 9, .ref 67, .ref 81, .ref 189, .int 2, .int 3]) := (fr _ (by first | decide | omega)).trans F_h113_0
  have P_h139_co : RowN h139 7 8000 0 := P_h113_co.zfr fr (by first | decide | omega) (by first | decide | omega)
  have FR_h139 : Fr h h139 (fun j => j < 190) := FR_h113.zsub fr (fun j hj => by omega)
  show WX _ _ _ 142 [(0, .ref 0), (1, .int 0), (2, .int 0), (3, .ref 9)] [] (n, s, h139)
  obtain ⟨ho7, hd7, F_h139_7⟩ := P_h139_co.zobj
  refine WX.s1 rfl rfl ?_
  refine WX.get1 (fs := [.ref 1, .ref 3, .ref 5, .ref 7, .long 0, .ref 38, .ref 9, .ref 67, .ref 81, .ref 189, .int 2, .int 3]) rfl (ltN hn (by decide)) (F_h139_0) rfl ?_
  refine WX.get1 (fs := [.ref 8, .int (nI 0), .int 0, .long ho7, .int hd7]) rfl (ltN hn (by decide)) (F_h139_7) rfl ?_
  exact WX.ret1 rfl (kk h139 FR_h139)
set_option maxRecDepth 20000 in
theorem x_forget0 {d n s : Nat} {h : Nat → aE}  (hn : 190 ≤ n)  (F_h_0 : h 0 = .inr (10, [.ref 1, .ref 3, .ref 5, .ref 7, .long 0, .ref 9, .ref 38, .ref 67, .ref 81, .ref 189, .int 2, .int 3])) (F_h_9 : h 9 = .inr (9, [.ref 10, .ref 12, .ref 16, .ref 23, .ref 30, .ref 37])) (F_h_12 : h 12 = .inr (0, [.ref 13, .ref 14, .ref 15, .int 0, .int 0])) (F_h_16 : h 16 = .inr (8, [.int 35, .ref 17, .ref 18, .ref 19, .ref 20, .ref 21, .ref 22, .int 0, .int 0])) (F_h_23 : h 23 = .inr (8, [.int 31, .ref 24, .ref 25, .ref 26, .ref 27, .ref 28, .ref 29, .int 0, .int 0])) (F_h_30 : h 30 = .inr (8, [.int 52, .ref 31, .ref 32, .ref 33, .ref 34, .ref 35, .ref 36, .int 0, .int 0])) (F_h_37 : h 37 = .inl (1, 3, .inl lat0)) (P_h_co : RowN h 7 8000 0) {Ψ : Option Value → aH → Prop} (kk : ∀ h', Fr h h' (fun j => j < 190) → Ψ none (n, s, h')) : WO (mM (d + 2)) 130 [.ref 0] (n, s, h) Ψ := by
  refine WO.of (Nat.le_of_ble_eq_true rfl) ?_
  have FR_h : Fr h h (fun j => j < 190) := Fr.rf
  show WX (lk tX11_forget) (mM (d + 1)) Ψ 0 [(0, .ref 0)] [] (n, s, h)
  refine WX.s1 rfl rfl ?_
  refine WX.get1 (fs := [.ref 1, .ref 3, .ref 5, .ref 7, .long 0, .ref 9, .ref 38, .ref 67, .ref 81, .ref 189, .int 2, .int 3]) rfl (ltN hn (by decide)) (F_h_0) rfl ?_
  refine WX.callC (vs := [.ref 7]) rfl rfl rfl (Nat.le_of_ble_eq_true rfl) (P_h_co.rcv (ltN hn (by decide))) ?_
  refine w_dropN (ltN hn (by decide)) P_h_co (fun h4 fr P_h4_co => ?_)
  have F_h4_0 : h4 0 = .inr (10, [.ref 1, .ref 3, .ref 5, .ref 7, .long 0, .ref 9, .ref 38, .ref 67, .ref 81, .ref 189, .int 2, .int 3]) := (fr _ (by first | decide | omega)).trans F_h_0
  have F_h4_9 : h4 9 = .inr (9, [.ref 10, .ref 12, .ref 16, .ref 23, .ref 30, .ref 37]) := (fr _ (by first | decide | omega)).trans F_h_9
  have F_h4_12 : h4 12 = .inr (0, [.ref 13, .ref 14, .ref 15, .int 0, .int 0]) := (fr _ (by first | decide | omega)).trans F_h_12
  have F_h4_16 : h4 16 = .inr (8, [.int 35, .ref 17, .ref 18, .ref 19, .ref 20, .ref 21, .ref 22, .int 0, .int 0]) := (fr _ (by first | decide | omega)).trans F_h_16
  have F_h4_23 : h4 23 = .inr (8, [.int 31, .ref 24, .ref 25, .ref 26, .ref 27, .ref 28, .ref 29, .int 0, .int 0]) := (fr _ (by first | decide | omega)).trans F_h_23
  have F_h4_30 : h4 30 = .inr (8, [.int 52, .ref 31, .ref 32, .ref 33, .ref 34, .ref 35, .ref 36, .int 0, .int 0]) := (fr _ (by first | decide | omega)).trans F_h_30
  have F_h4_37 : h4 37 = .inl (1, 3, .inl lat0) := (fr _ (by first | decide | omega)).trans F_h_37
  have FR_h4 : Fr h h4 (fun j => j < 190) := FR_h.zsub fr (fun j hj => by omega)
  show WX _ _ _ 7 [(0, .ref 0)] [] (n, s, h4)
  refine WX.s1 rfl rfl ?_
  refine WX.get1 (fs := [.ref 1, .ref 3, .ref 5, .ref 7, .long 0, .ref 9, .ref 38, .ref 67, .ref 81, .ref 189, .int 2, .int 3]) rfl (ltN hn (by decide)) (F_h4_0) rfl ?_
  refine WX.callC (vs := [.ref 9]) rfl rfl rfl (Nat.le_of_ble_eq_true rfl) (rcv_ok (ltN hn (by decide)) F_h4_9) ?_
  refine x_empty9 hn F_h4_9 F_h4_12 F_h4_16 F_h4_23 F_h4_30 F_h4_37 (fun h11 fr => ?_)
  have F_h11_0 : h11 0 = .inr (10, [.ref 1, .ref 3, .ref 5, .ref 7, .long 0, .ref 9, .ref 38, .ref 67, .ref 81, .ref 189, .int 2, .int 3]) := (fr _ (by first | decide | omega)).trans F_h4_0
  have P_h11_co : RowN h11 7 8000 0 := P_h4_co.zfr fr (by first | decide | omega) (by first | decide | omega)
  have FR_h11 : Fr h h11 (fun j => j < 190) := FR_h4.zsub fr (fun j hj => by omega)
  show WX _ _ _ 14 [(0, .ref 0)] [] (n, s, h11)
  refine WX.s1 rfl rfl ?_
  refine WX.s1 rfl rfl ?_
  refine WX.put1 (fs := [.ref 1, .ref 3, .ref 5, .ref 7, .long 0, .ref 9, .ref 38, .ref 67, .ref 81, .ref 189, .int 2, .int 3]) (fs' := [.ref 1, .ref 3, .ref 5, .ref 7, .long 0, .ref 9, .ref 38, .ref 67, .ref 81, .ref 189, .int 2, .int 3]) rfl (ltN hn (by decide)) (F_h11_0) (Nat.le_of_ble_eq_true rfl) (rfl) rfl (fun h16 e_h16 => ?_)
  have F_h16_0 : h16 0 = .inr (10, [.ref 1, .ref 3, .ref 5, .ref 7, .long 0, .ref 9, .ref 38, .ref 67, .ref 81, .ref 189, .int 2, .int 3]) := by rw [e_h16]; exact va_up_eq
  have P_h16_co : RowN h16 7 8000 0 := P_h11_co.zfr (Fr.of e_h16) (by decide) (by decide)
  have FR_h16 : Fr h h16 (fun j => j < 190) := FR_h11.zup e_h16 (by first | exact rfl | exact Or.inl rfl | exact Or.inr rfl | exact ⟨by decide, by decide⟩ | decide | omega)
  clear F_h11_0 P_h11_co FR_h11 e_h16
  exact WX.ret0 rfl (kk h16 FR_h16)
set_option maxRecDepth 20000 in
theorem x_make0 {d n s : Nat} {h : Nat → aE} {a : Int32} (hn : 190 ≤ n)  (F_h_0 : h 0 = .inr (10, [.ref 1, .ref 3, .ref 5, .ref 7, .long 0, .ref 9, .ref 38, .ref 67, .ref 81, .ref 189, .int 2, .int 3])) (F_h_1 : h 1 = .inr (7, [.ref 2, .int 0, .int 0, .long 0, .int 0]))  {Ψ : Option Value → aH → Prop} (kk : Ψ (some (.int (-1))) (n, s, h)) : WO (mM (d + 1)) 132 [.ref 0, .int a] (n, s, h) Ψ := by
  refine WO.of (Nat.le_of_ble_eq_true rfl) ?_
  show WX (lk tX11_make) (mM d) Ψ 0 [(0, .ref 0), (1, .int a)] [] (n, s, h)
  refine WX.s1 rfl rfl ?_
  refine WX.get1 (fs := [.ref 1, .ref 3, .ref 5, .ref 7, .long 0, .ref 9, .ref 38, .ref 67, .ref 81, .ref 189, .int 2, .int 3]) rfl (ltN hn (by decide)) (F_h_0) rfl ?_
  refine WX.get1 (fs := [.ref 2, .int 0, .int 0, .long 0, .int 0]) rfl (ltN hn (by decide)) (F_h_1) rfl ?_
  refine WX.s1 rfl rfl ?_
  refine WX.icmp rfl (fun c_9 => absurd c_9 (by decide)) (fun c_9 => ?_)
  clear c_9
  refine WX.s1 rfl rfl ?_
  exact WX.ret1 rfl kk
set_option maxRecDepth 20000 in
theorem m_write0 {d n s : Nat} {h : Nat → aE} {m : Nat} {I : Nat → Int32} {AR : Nat → Nat → Int32} {LN : Nat → Int64} {x : Int64} {nn : Int32} (hm : m + 43 < n) (M_h : MAt h m I AR LN)  (K_I_1 : I 1 = 0) {Ψ : Option Value → aH → Prop} (k0 : (nn < 1 ∨ 8 < nn) → Ψ (some (.int 0)) (n, s, h)) (k1 : ∀ h', ¬ (nn < 1 ∨ 8 < nn) → Fr h h' (inM m) → Ψ (some (.int 1)) (n, s, h')) : WO (mM (d + 1)) 142 [.ref m, .long x, .int nn] (n, s, h) Ψ := by
  refine WO.of (Nat.le_of_ble_eq_true rfl) ?_
  have FR_h : Fr h h (inM m) := Fr.rf
  have FI_I : Fi I I (fun f => f = 1) := Fi.rf
  show WX (lk tX12_write) (mM d) Ψ 0 [(0, .ref m), (1, .long x), (3, .int nn)] [] (n, s, h)
  refine WX.s1 rfl rfl ?_
  refine WX.s1 rfl rfl ?_
  refine WX.icmp rfl (fun c_2 => ?_) (fun c_2 => ?_)
  · skip
    refine WX.s1 rfl rfl ?_
    exact WX.ret3 rfl (Or.inl rfl) (k0 (by first | exact Or.inl c_2 | exact Or.inr c_8))
  · skip
    refine WX.s1 rfl rfl ?_
    refine WX.s1 rfl rfl ?_
    refine WX.icmp rfl (fun c_8 => ?_) (fun c_8 => ?_)
    · skip
      refine WX.s1 rfl rfl ?_
      exact WX.ret3 rfl (Or.inl rfl) (k0 (by first | exact Or.inl c_2 | exact Or.inr c_8))
    · skip
      have hgood : ¬ (nn < 1 ∨ 8 < nn) := fun q => q.elim c_2 c_8
      obtain ⟨q, hq1, hq8, rfl⟩ := nI_18 c_2 c_8
      refine WX.s1 rfl rfl ?_
      refine WX.mgetK (x := 0) rfl hm M_h rfl K_I_1 ?_
      refine WX.s1 rfl rfl ?_
      refine WX.s1 rfl rfl ?_
      refine WX.s1 rfl rfl ?_
      refine WX.icmp rfl (fun c_20 => ?_) (fun c_20 => absurd (wle hq8) c_20)
      refine WX.s1 rfl rfl ?_
      refine WX.s1 (L' := [(0, .ref m), (1, .long x), (3, .int (nI q)), (4, .int 0)]) rfl rfl ?_
      have lp : ∀ (t i : Nat) (hL : Nat → aE) (IL : Nat → Int32) (AL : Nat → Nat → Int32), i + t = q → Fr h hL (inM m) → MAt hL m IL AL LN → Fi I IL (fun f => f = 1) → IL 1 = nI i → WX (lk tX12_write) (mM d) Ψ 28 [(0, .ref m), (1, .long x), (3, .int (nI q)), (4, .int (nI i))] [] (n, s, hL) := by
        clear M_h FR_h FI_I K_I_1
        intro t
        induction t with
        | zero =>
          intro i hL IL AL ht FR_hL M_hL FI_IL K_IL_1
          refine WX.s1 rfl rfl ?_
          refine WX.s1 rfl rfl ?_
          refine WX.icmp rfl (fun c_31 => ?_) (fun c_31 => absurd (nI_le (by omega) (by omega)) c_31)
          refine WX.s1 rfl rfl ?_
          exact WX.ret3 rfl (Or.inr rfl) (k1 hL hgood FR_hL)
        | succ t ih =>
          intro i hL IL AL ht FR_hL M_hL FI_IL K_IL_1
          refine WX.s1 rfl rfl ?_
          refine WX.s1 rfl rfl ?_
          refine WX.icmp rfl (fun c_31 => absurd c_31 (nI_ge (by omega) (by omega))) (fun c_31 => ?_)
          refine WX.s1 rfl rfl ?_
          refine WX.mget rfl hm M_hL rfl ?_
          refine WX.s1 rfl rfl ?_
          refine WX.mgetK (x := (nI i)) rfl hm M_hL rfl K_IL_1 ?_
          refine WX.s1 rfl rfl ?_
          refine WX.s1 rfl rfl ?_
          refine WX.s1 rfl rfl ?_
          refine WX.s1 rfl rfl ?_
          refine WX.s1 rfl rfl ?_
          refine WX.s1 rfl rfl ?_
          refine WX.s1 rfl rfl ?_
          refine WX.s1 rfl rfl ?_
          refine WX.s1 rfl rfl ?_
          refine WX.s1 rfl rfl ?_
          refine WX.mast (c := 1) rfl hm M_hL (by decide) (by decide) (by decide) (by decide) (vp_in_nI (N := 8000) (by omega) (by decide)) (fun h57n1 A57n1 e_A57n1 M_h57n1 frh57n1 => ?_)
          have FR_h57n1 := FR_hL.ztr frh57n1
          clear M_hL FR_hL frh57n1 e_A57n1
          refine WX.s1 rfl rfl ?_
          refine WX.s1 rfl rfl ?_
          refine WX.mgetK (x := (nI i)) rfl hm M_h57n1 rfl K_IL_1 ?_
          refine WX.s1 rfl rfl ?_
          refine WX.s1 rfl rfl ?_
          refine WX.mput rfl hm M_h57n1 (rfl) (by decide) (fun _ => rfl) (fun h65n2 I65n2 e_I65n2 M_h65n2 frh65n2 => ?_)
          have FR_h65n2 := FR_h57n1.ztr frh65n2
          have FI_I65n2 : Fi I I65n2 (fun f => f = 1) := FI_IL.zup e_I65n2 (by first | exact rfl | decide | omega)
          have K_I65n2_1 : I65n2 1 = (nI (i + 1)) := by rw [e_I65n2]; exact pk_us.trans (nI_1 i)
          clear M_h57n1 FR_h57n1 FI_IL e_I65n2 frh65n2 K_IL_1
          refine WX.s1 (L' := [(0, .ref m), (1, .long x), (3, .int (nI q)), (4, .int ((nI i) + 1))]) rfl rfl ?_
          refine WX.s1 rfl rfl ?_
          rw [nI_1 i]
          exact ih (i + 1) h65n2 I65n2 A57n1 (by omega) FR_h65n2 M_h65n2 FI_I65n2 K_I65n2_1
      exact lp q 0 h I AR (by omega) FR_h M_h FI_I K_I_1
set_option maxRecDepth 20000 in
theorem m_again0 {d n s : Nat} {h : Nat → aE} {m : Nat} {I : Nat → Int32} {AR : Nat → Nat → Int32} {LN : Nat → Int64} {a b : Int32} (hm : m + 43 < n) (M_h : MAt h m I AR LN)  (K_I_1 : I 1 = 0) {Ψ : Option Value → aH → Prop} (kk : Ψ (some (.int 0)) (n, s, h)) : WO (mM (d + 1)) 143 [.ref m, .int a, .int b] (n, s, h) Ψ := by
  refine WO.of (Nat.le_of_ble_eq_true rfl) ?_
  have FR_h : Fr h h (inM m) := Fr.rf
  have FI_I : Fi I I (fun f => f = 40) := Fi.rf
  show WX (lk tX12_again) (mM d) Ψ 0 [(0, .ref m), (1, .int a), (2, .int b)] [] (n, s, h)
  refine WX.s1 rfl rfl ?_
  refine WX.s1 rfl rfl ?_
  refine WX.icmp rfl (fun c_2 => ?_) (fun c_2 => ?_)
  · skip
    refine WX.s1 rfl rfl ?_
    exact WX.ret3 rfl (Or.inl rfl) kk
  · skip
    refine WX.s1 rfl rfl ?_
    refine WX.s1 rfl rfl ?_
    refine WX.mgetK (x := 0) rfl hm M_h rfl K_I_1 ?_
    refine WX.icmp rfl (fun c_10 => ?_) (fun c_10 => absurd (lt0 c_2) c_10)
    refine WX.s1 rfl rfl ?_
    exact WX.ret3 rfl (Or.inl rfl) kk
set_option maxRecDepth 20000 in
theorem m_turn0 {d n s : Nat} {h : Nat → aE} {m : Nat} {I : Nat → Int32} {AR : Nat → Nat → Int32} {LN : Nat → Int64}  (hm : m + 43 < n) (M_h : MAt h m I AR LN)  (K_I_3 : I 3 = 0) {Ψ : Option Value → aH → Prop} (kk : ∀ h', Fr h h' (inM m) → Ψ (some (.int 1)) (n, s, h')) : WO (mM (d + 1)) 145 [.ref m] (n, s, h) Ψ := by
  refine WO.of (Nat.le_of_ble_eq_true rfl) ?_
  have FR_h : Fr h h (inM m) := Fr.rf
  have FI_I : Fi I I (fun f => f = 1) := Fi.rf
  show WX (lk tX12_turn) (mM d) Ψ 0 [(0, .ref m)] [] (n, s, h)
  refine WX.s1 rfl rfl ?_
  refine WX.mgetK (x := 0) rfl hm M_h rfl K_I_3 ?_
  refine WX.s1 rfl rfl ?_
  refine WX.icmp rfl (fun c_7 => ?_) (fun c_7 => absurd (by decide) c_7)
  clear c_7
  refine WX.s1 rfl rfl ?_
  refine WX.s1 (L' := [(0, .ref m), (1, .int 0)]) rfl rfl ?_
  refine WX.s1 rfl rfl ?_
  refine WX.s1 rfl rfl ?_
  refine WX.mgetK (x := 0) rfl hm M_h rfl K_I_3 ?_
  refine WX.icmp rfl (fun c_19 => ?_) (fun c_19 => absurd (by decide) c_19)
  clear c_19
  refine WX.s1 rfl rfl ?_
  refine WX.s1 rfl rfl ?_
  refine WX.mgetK (x := 0) rfl hm M_h rfl K_I_3 ?_
  refine WX.mput rfl hm M_h (rfl) (by decide) (fun _ => rfl) (fun h45n1 I45n1 e_I45n1 M_h45n1 frh45n1 => ?_)
  have FR_h45n1 := FR_h.ztr frh45n1
  have FI_I45n1 : Fi I I45n1 (fun f => f = 1) := FI_I.zup e_I45n1 (by first | exact rfl | decide | omega)
  have K_I45n1_3 : I45n1 3 = 0 := by rw [e_I45n1]; exact (pk_un (by decide)).trans K_I_3
  have K_I45n1_1 : I45n1 1 = 0 := by rw [e_I45n1]; exact pk_us
  clear M_h FR_h FI_I e_I45n1 frh45n1 K_I_3
  refine WX.s1 rfl rfl ?_
  exact WX.ret3 rfl (Or.inr rfl) (kk h45n1 FR_h45n1)
set_option maxRecDepth 20000 in
theorem m_learn0 {d n s : Nat} {h : Nat → aE} {m : Nat} {I : Nat → Int32} {AR : Nat → Nat → Int32} {LN : Nat → Int64}  (hm : m + 43 < n) (M_h : MAt h m I AR LN)  (K_I_1 : I 1 = 0) {Ψ : Option Value → aH → Prop} (kk : ∀ h', Fr h h' (inM m) → Ψ (some (.int (0 - 0))) (n, s, h')) : WO (mM (d + 1)) 220 [.ref m] (n, s, h) Ψ := by
  refine WO.of (Nat.le_of_ble_eq_true rfl) ?_
  have FR_h : Fr h h (inM m) := Fr.rf
  have FI_I : Fi I I (fun f => f = 1 ∨ f = 7 ∨ f = 8 ∨ f = 9) := Fi.rf
  show WX (lk tX12_learn) (mM d) Ψ 0 [(0, .ref m)] [] (n, s, h)
  refine WX.s1 rfl rfl ?_
  refine WX.mgetK (x := 0) rfl hm M_h rfl K_I_1 ?_
  refine WX.s1 rfl rfl ?_
  refine WX.icmp rfl (fun c_5 => ?_) (fun c_5 => absurd (by decide) c_5)
  clear c_5
  refine WX.s1 rfl rfl ?_
  refine WX.s1 (L' := [(0, .ref m), (1, .int 0)]) rfl rfl ?_
  refine WX.s1 rfl rfl ?_
  refine WX.s1 (L' := [(0, .ref m), (1, .int 0), (2, .int 0)]) rfl rfl ?_
  refine WX.s1 rfl rfl ?_
  refine WX.if_ rfl (fun c_63 => ?_) (fun c_63 => absurd (by decide) c_63)
  clear c_63
  refine WX.s1 rfl rfl ?_
  refine WX.s1 rfl rfl ?_
  refine WX.mput rfl hm M_h (rfl) (by decide) (fun _ => rfl) (fun h435n1 I435n1 e_I435n1 M_h435n1 frh435n1 => ?_)
  have FR_h435n1 := FR_h.ztr frh435n1
  have FI_I435n1 : Fi I I435n1 (fun f => f = 1 ∨ f = 7 ∨ f = 8 ∨ f = 9) := FI_I.zup e_I435n1 (by first | exact rfl | decide | omega)
  have K_I435n1_1 : I435n1 1 = 0 := by rw [e_I435n1]; exact (pk_un (by decide)).trans K_I_1
  have K_I435n1_9 : I435n1 9 = 0 := by rw [e_I435n1]; exact pk_us
  clear M_h FR_h FI_I e_I435n1 frh435n1 K_I_1
  refine WX.s1 rfl rfl ?_
  refine WX.s1 rfl rfl ?_
  refine WX.if_ rfl (fun c_440 => ?_) (fun c_440 => absurd (by decide) c_440)
  clear c_440
  refine WX.s1 rfl rfl ?_
  refine WX.mput rfl hm M_h435n1 (rfl) (by decide) (fun _ => rfl) (fun h454n2 I454n2 e_I454n2 M_h454n2 frh454n2 => ?_)
  have FR_h454n2 := FR_h435n1.ztr frh454n2
  have FI_I454n2 : Fi I I454n2 (fun f => f = 1 ∨ f = 7 ∨ f = 8 ∨ f = 9) := FI_I435n1.zup e_I454n2 (by first | exact rfl | decide | omega)
  have K_I454n2_1 : I454n2 1 = 0 := by rw [e_I454n2]; exact (pk_un (by decide)).trans K_I435n1_1
  have K_I454n2_9 : I454n2 9 = 0 := by rw [e_I454n2]; exact (pk_un (by decide)).trans K_I435n1_9
  have K_I454n2_8 : I454n2 8 = 0 := by rw [e_I454n2]; exact pk_us
  clear M_h435n1 FR_h435n1 FI_I435n1 e_I454n2 frh454n2 K_I435n1_1 K_I435n1_9
  refine WX.s1 rfl rfl ?_
  refine WX.s1 rfl rfl ?_
  refine WX.mgetK (x := 0) rfl hm M_h454n2 rfl K_I454n2_1 ?_
  refine WX.s1 rfl rfl ?_
  refine WX.s1 rfl rfl ?_
  refine WX.mput rfl hm M_h454n2 (rfl) (by decide) (fun _ => rfl) (fun h464n3 I464n3 e_I464n3 M_h464n3 frh464n3 => ?_)
  have FR_h464n3 := FR_h454n2.ztr frh464n3
  have FI_I464n3 : Fi I I464n3 (fun f => f = 1 ∨ f = 7 ∨ f = 8 ∨ f = 9) := FI_I454n2.zup e_I464n3 (by first | exact rfl | decide | omega)
  have K_I464n3_1 : I464n3 1 = 0 := by rw [e_I464n3]; exact (pk_un (by decide)).trans K_I454n2_1
  have K_I464n3_9 : I464n3 9 = 0 := by rw [e_I464n3]; exact (pk_un (by decide)).trans K_I454n2_9
  have K_I464n3_8 : I464n3 8 = 0 := by rw [e_I464n3]; exact (pk_un (by decide)).trans K_I454n2_8
  have K_I464n3_7 : I464n3 7 = (0 - 0) := by rw [e_I464n3]; exact pk_us
  clear M_h454n2 FR_h454n2 FI_I454n2 e_I464n3 frh464n3 K_I454n2_1 K_I454n2_9 K_I454n2_8
  refine WX.s1 rfl rfl ?_
  refine WX.s1 (L' := [(0, .ref m), (1, .int 0), (2, .int 0), (3, .int 0)]) rfl rfl ?_
  refine WX.s1 rfl rfl ?_
  refine WX.s1 rfl rfl ?_
  refine WX.mgetK (x := (0 - 0)) rfl hm M_h464n3 rfl K_I464n3_7 ?_
  refine WX.icmp rfl (fun c_474 => ?_) (fun c_474 => absurd (by decide) c_474)
  clear c_474
  refine WX.s1 rfl rfl ?_
  refine WX.s1 rfl rfl ?_
  refine WX.mput rfl hm M_h464n3 (rfl) (by decide) (fun _ => rfl) (fun h499n4 I499n4 e_I499n4 M_h499n4 frh499n4 => ?_)
  have FR_h499n4 := FR_h464n3.ztr frh499n4
  have FI_I499n4 : Fi I I499n4 (fun f => f = 1 ∨ f = 7 ∨ f = 8 ∨ f = 9) := FI_I464n3.zup e_I499n4 (by first | exact rfl | decide | omega)
  have K_I499n4_9 : I499n4 9 = 0 := by rw [e_I499n4]; exact (pk_un (by decide)).trans K_I464n3_9
  have K_I499n4_8 : I499n4 8 = 0 := by rw [e_I499n4]; exact (pk_un (by decide)).trans K_I464n3_8
  have K_I499n4_7 : I499n4 7 = (0 - 0) := by rw [e_I499n4]; exact (pk_un (by decide)).trans K_I464n3_7
  have K_I499n4_1 : I499n4 1 = 0 := by rw [e_I499n4]; exact pk_us
  clear M_h464n3 FR_h464n3 FI_I464n3 e_I499n4 frh499n4 K_I464n3_1 K_I464n3_9 K_I464n3_8 K_I464n3_7
  refine WX.s1 rfl rfl ?_
  refine WX.mgetK (x := (0 - 0)) rfl hm M_h499n4 rfl K_I499n4_7 ?_
  exact WX.ret1 rfl (kk h499n4 FR_h499n4)
set_option maxRecDepth 20000 in
theorem m_make0 {d n s : Nat} {h : Nat → aE} {m : Nat} {I : Nat → Int32} {AR : Nat → Nat → Int32} {LN : Nat → Int64} {a : Int32} (hm : m + 43 < n) (M_h : MAt h m I AR LN)  (K_I_1 : I 1 = 0) {Ψ : Option Value → aH → Prop} (kk : Ψ (some (.int (-1))) (n, s, h)) : WO (mM (d + 1)) 213 [.ref m, .int a] (n, s, h) Ψ := by
  refine WO.of (Nat.le_of_ble_eq_true rfl) ?_
  have FR_h : Fr h h (inM m) := Fr.rf
  have FI_I : Fi I I (fun f => f = 40) := Fi.rf
  show WX (lk tX12_make) (mM d) Ψ 0 [(0, .ref m), (1, .int a)] [] (n, s, h)
  refine WX.s1 rfl rfl ?_
  refine WX.mgetK (x := 0) rfl hm M_h rfl K_I_1 ?_
  refine WX.s1 rfl rfl ?_
  refine WX.icmp rfl (fun c_6 => absurd c_6 (by decide)) (fun c_6 => ?_)
  clear c_6
  refine WX.s1 rfl rfl ?_
  exact WX.ret1 rfl kk
