/-! StatePress on an empty IN: its methods, from the leaves on (rows laid by a program) -/
theorem Fr.ztr {h h1 h2 : Nat → aE} {A : Nat → Prop} (a : Fr h h1 A) (b : Fr h1 h2 A) : Fr h h2 A := fun j hj => (b j hj).trans (a j hj)
theorem RowIs.zfr {h h1 : Nat → aE} {A : Nat → Prop} {k N : Nat} {b : Option (List Nat)} {hd : Int32} {ho : Int64} (r : RowIs h k N b ho hd) (f : Fr h h1 A) (h0 : ¬ A k) (h2 : ¬ A (k + 1)) : RowIs h1 k N b ho hd := by
  obtain ⟨g, u, sp, r1, r2⟩ := r
  exact ⟨g, u, sp, ⟨(f _ h0).trans r1.1, (f _ h2).trans r1.2⟩, r2⟩
theorem ltN {a N n : Nat} (h : N ≤ n) (ha : a < N) : a < n := Nat.lt_of_lt_of_le ha h
theorem ltB {k b N n : Nat} (h : k + N < n) (hb : b ≤ N) : k + b < n := Nat.lt_of_le_of_lt (Nat.add_le_add_left hb k) h
abbrev inR (a b : Nat) : Nat → Prop := fun j => a ≤ j ∧ j ≤ b
theorem Fr.of {h h2 : Nat → aE} {a : Nat} {v : aE} (e : h2 = va_up h a v) : Fr h h2 (fun j => j = a) := fun j hj => by rw [e]; exact va_up_neq hj
theorem Fr.zup {h0 h1 h2 : Nat → aE} {A : Nat → Prop} {a : Nat} {v : aE} (F : Fr h0 h1 A) (e : h2 = va_up h1 a v) (ha : A a) : Fr h0 h2 A := fun j hj => by
  rw [e]
  exact (va_up_neq (fun q => hj (by rw [q]; exact ha))).trans (F j hj)
theorem Fr.zsub {h0 h1 h2 : Nat → aE} {A B : Nat → Prop} (F : Fr h0 h1 A) (f : Fr h1 h2 B) (q : ∀ j, B j → A j) : Fr h0 h2 A := F.ztr (f.mono q)
theorem Fr.zsubE {h0 h1 h2 : Nat → aE} {a b c : Nat} (F : Fr h0 h1 (inR a b)) (f : Fr h1 h2 (fun j => j = c)) (q1 : a ≤ c) (q2 : c ≤ b) : Fr h0 h2 (inR a b) := F.ztr (f.mono (fun j e => by subst e; exact ⟨q1, q2⟩))
theorem Fr.zsub2 {h0 h1 h2 : Nat → aE} {a b c : Nat} (F : Fr h0 h1 (inR a b)) (f : Fr h1 h2 (fun j => j = c ∨ j = c + 1)) (q1 : a ≤ c) (q2 : c + 1 ≤ b) : Fr h0 h2 (inR a b) := F.ztr (f.mono (fun j e => ⟨by rcases e with e | e <;> omega, by rcases e with e | e <;> omega⟩))
theorem Fr.zsubR {h0 h1 h2 : Nat → aE} {a b c d : Nat} (F : Fr h0 h1 (inR a b)) (f : Fr h1 h2 (inR c d)) (q1 : a ≤ c) (q2 : d ≤ b) : Fr h0 h2 (inR a b) := F.ztr (f.mono (fun j e => ⟨Nat.le_trans q1 e.1, Nat.le_trans e.2 q2⟩))
theorem RowIs.rcv {n s : Nat} {h : Nat → aE} {k N : Nat} {b : Option (List Nat)} {hd : Int32} {ho : Int64} {vs : List Value} (r : RowIs h k N b ho hd) (hk : k < n) : rcv 8 (.ref k :: vs) (n, s, h) = true := by
  obtain ⟨g, u, sp, r1, -⟩ := r
  exact rcv_ok hk r1.1
def RowN (h : Nat → aE) (k N c : Nat) : Prop := ∃ l ho hd, RowIs h k N (some l) ho hd ∧ l.length = c
theorem RowN.zfr {h h1 : Nat → aE} {A : Nat → Prop} {k N c : Nat} (r : RowN h k N c) (f : Fr h h1 A) (h0 : ¬ A k) (h2 : ¬ A (k + 1)) : RowN h1 k N c := by
  obtain ⟨l, ho, hd, r1, r2⟩ := r
  exact ⟨l, ho, hd, r1.zfr f h0 h2, r2⟩
theorem RowN.rcv {n s : Nat} {h : Nat → aE} {k N c : Nat} {vs : List Value} (r : RowN h k N c) (hk : k < n) : rcv 8 (.ref k :: vs) (n, s, h) = true := by
  obtain ⟨l, ho, hd, r1, r2⟩ := r
  exact r1.rcv hk
theorem RowN.zobj {h : Nat → aE} {k N c : Nat} (r : RowN h k N c) : ∃ ho hd, h k = .inr (7, [.ref (k + 1), .int (nI c), .int 0, .long ho, .int hd]) := by
  obtain ⟨l, ho, hd, r1, rfl⟩ := r
  obtain ⟨g, r2, -⟩ := r1.at_
  exact ⟨ho, hd, r2.1⟩
theorem bputs_len {N : Nat} : ∀ (m l : List Nat), l.length + m.length ≤ N → bputs N (some l) m = some (l ++ m) := by
  intro m
  induction m with
  | nil => intro l _; rw [List.append_nil]; rfl
  | cons a m ih =>
    intro l hl
    rw [List.length_cons] at hl
    show bputs N (bput N (some l) a) m = _
    have e : bput N (some l) a = some (l ++ [a]) := by
      show (if l.length < N then some (l ++ [a]) else none) = _
      rw [if_pos (by omega)]
    rw [e, ih (l ++ [a]) (by rw [List.length_append, List.length_singleton]; omega), List.append_assoc]
    rfl
theorem w_putN {d n s : Nat} {h : Nat → aE} {k N c : Nat} {v : Int32} (hn : k + 1 < n) (r : RowN h k N c) (hc : c < N) (hN : N < 2 ^ 31) {Ψ : Option Value → aH → Prop} (kk : ∀ h', Fr h h' (fun j => j = k ∨ j = k + 1) → RowN h' k N (c + 1) → Ψ none (n, s, h')) : WO (mM (d + 1)) 86 [.ref k, .int v] (n, s, h) Ψ := by
  obtain ⟨l, ho, hd, r1, rfl⟩ := r
  refine w_putB hn r1 hN (fun h' f r2 => kk h' f ⟨l ++ [byt v], ho, hd, ?_, by rw [List.length_append]; rfl⟩)
  have e : bput N (some l) (byt v) = some (l ++ [byt v]) := by
    show (if l.length < N then some (l ++ [byt v]) else none) = _
    rw [if_pos hc]
  rw [← e]
  exact r2
theorem leL_len (x : Int64) (m : Nat) : (leL x m).length = m := by unfold leL; rw [List.length_map, List.length_range]
theorem w_putNumN {d n s : Nat} {h : Nat → aE} {k N c : Nat} {x : Int64} {m : Nat} (hn : k + 1 < n) (r : RowN h k N c) (hc : c + m ≤ N) (hN : N < 2 ^ 31) (hm : m ≤ 8) {Ψ : Option Value → aH → Prop} (kk : ∀ h', Fr h h' (fun j => j = k ∨ j = k + 1) → RowN h' k N (c + m) → Ψ none (n, s, h')) : WO (mM (d + 2)) 87 [.ref k, .long x, .int (nI m)] (n, s, h) Ψ := by
  obtain ⟨l, ho, hd, r1, rfl⟩ := r
  refine w_putNumber hn r1 hN hm (fun h' f r2 => kk h' f ⟨l ++ leL x m, ho, hd, ?_, by rw [List.length_append, leL_len]⟩)
  rw [← bputs_len (leL x m) l (by rw [leL_len]; exact hc)]
  exact r2
theorem w_dropN {d n s : Nat} {h : Nat → aE} {k N c : Nat} (hn : k + 1 < n) (r : RowN h k N c) {Ψ : Option Value → aH → Prop} (kk : ∀ h', Fr h h' (fun j => j = k) → RowN h' k N 0 → Ψ none (n, s, h')) : WO (mM (d + 1)) 85 [.ref k] (n, s, h) Ψ := by
  obtain ⟨l, ho, hd, r1, -⟩ := r
  exact w_dropB hn r1 (fun h' f r2 => kk h' f ⟨[], 0, 0, r2, rfl⟩)
theorem RowN.of {h : Nat → aE} {k N : Nat} {g : Nat → Int32} {ho : Int64} {hd : Int32} (a : h k = .inr (7, [.ref (k + 1), .int 0, .int 0, .long ho, .int hd])) (b : h (k + 1) = .inl (0, N, .inl g)) : RowN h k N 0 := ⟨[], ho, hd, ⟨g, 0, 0, ⟨a, b⟩, Nat.zero_le _, rfl, rfl, fun i hi => absurd hi (Nat.not_lt_zero i)⟩, rfl⟩
set_option maxRecDepth 20000 in
theorem x_cbec0 {d n s : Nat} {h : Nat → aE} {a b : Nat} {ta tha tb : Int32}  (ha : a < n) (hb : b < n) (hab : b ≠ a) (F_h_a : h a = .inr (0, [.ref (a + 1), .ref (a + 2), .ref (a + 3), .int ta, .int tha])) (F_h_b : h b = .inr (0, [.ref (b + 1), .ref (b + 2), .ref (b + 3), .int tb, .int 0]))  {Ψ : Option Value → aH → Prop} (kk : ∀ h', Fr h h' (fun j => j = a) → h' a = .inr (0, [.ref (a + 1), .ref (a + 2), .ref (a + 3), .int ta, .int 0]) → Ψ none (n, s, h')) : WO (mM (d + 1)) 1 [.ref a, .ref b] (n, s, h) Ψ := by
  refine WO.of (Nat.le_of_ble_eq_true rfl) ?_
  have FR_h : Fr h h (fun j => j = a) := Fr.rf
  show WX (lk tX0_become) (mM d) Ψ 0 [(0, .ref a), (1, .ref b)] [] (n, s, h)
  refine WX.s1 rfl rfl ?_
  refine WX.s1 rfl rfl ?_
  refine WX.get1 (fs := [.ref (b + 1), .ref (b + 2), .ref (b + 3), .int tb, .int 0]) rfl (hb) (F_h_b) rfl ?_
  refine WX.put1 (fs := [.ref (a + 1), .ref (a + 2), .ref (a + 3), .int ta, .int tha]) (fs' := [.ref (a + 1), .ref (a + 2), .ref (a + 3), .int ta, .int 0]) rfl (ha) (F_h_a) (Nat.le_of_ble_eq_true rfl) (rfl) rfl (fun h5 e_h5 => ?_)
  have F_h5_a : h5 a = .inr (0, [.ref (a + 1), .ref (a + 2), .ref (a + 3), .int ta, .int 0]) := by rw [e_h5]; exact va_up_eq
  have F_h5_b : h5 b = .inr (0, [.ref (b + 1), .ref (b + 2), .ref (b + 3), .int tb, .int 0]) := by rw [e_h5, va_up_neq (hab)]; exact F_h_b
  have FR_h5 : Fr h h5 (fun j => j = a) := FR_h.zup e_h5 (by first | exact rfl | exact Or.inl rfl | exact Or.inr rfl | exact ⟨by decide, by decide⟩ | decide | omega)
  clear F_h_a F_h_b FR_h e_h5
  refine WX.s1 rfl rfl ?_
  refine WX.get1 (fs := [.ref (a + 1), .ref (a + 2), .ref (a + 3), .int ta, .int 0]) rfl (ha) (F_h5_a) rfl ?_
  refine WX.if_ rfl (fun c_12 => ?_) (fun c_12 => absurd (by decide) c_12)
  clear c_12
  exact WX.ret0 rfl (kk h5 FR_h5 F_h5_a)
set_option maxRecDepth 20000 in
theorem x_sbec0 {d n s : Nat} {h : Nat → aE} {a b : Nat} {la oa tha lb ob : Int32}  (ha : a < n) (hb : b < n) (hab : b ≠ a) (F_h_a : h a = .inr (8, [.int la, .ref (a + 1), .ref (a + 2), .ref (a + 3), .ref (a + 4), .ref (a + 5), .ref (a + 6), .int oa, .int tha])) (F_h_b : h b = .inr (8, [.int lb, .ref (b + 1), .ref (b + 2), .ref (b + 3), .ref (b + 4), .ref (b + 5), .ref (b + 6), .int ob, .int 0]))  {Ψ : Option Value → aH → Prop} (kk : ∀ h', Fr h h' (fun j => j = a) → h' a = .inr (8, [.int la, .ref (a + 1), .ref (a + 2), .ref (a + 3), .ref (a + 4), .ref (a + 5), .ref (a + 6), .int oa, .int 0]) → Ψ none (n, s, h')) : WO (mM (d + 1)) 97 [.ref a, .ref b] (n, s, h) Ψ := by
  refine WO.of (Nat.le_of_ble_eq_true rfl) ?_
  have FR_h : Fr h h (fun j => j = a) := Fr.rf
  show WX (lk tX8_become) (mM d) Ψ 0 [(0, .ref a), (1, .ref b)] [] (n, s, h)
  refine WX.s1 rfl rfl ?_
  refine WX.s1 rfl rfl ?_
  refine WX.get1 (fs := [.int lb, .ref (b + 1), .ref (b + 2), .ref (b + 3), .ref (b + 4), .ref (b + 5), .ref (b + 6), .int ob, .int 0]) rfl (hb) (F_h_b) rfl ?_
  refine WX.put1 (fs := [.int la, .ref (a + 1), .ref (a + 2), .ref (a + 3), .ref (a + 4), .ref (a + 5), .ref (a + 6), .int oa, .int tha]) (fs' := [.int la, .ref (a + 1), .ref (a + 2), .ref (a + 3), .ref (a + 4), .ref (a + 5), .ref (a + 6), .int oa, .int 0]) rfl (ha) (F_h_a) (Nat.le_of_ble_eq_true rfl) (rfl) rfl (fun h5 e_h5 => ?_)
  have F_h5_a : h5 a = .inr (8, [.int la, .ref (a + 1), .ref (a + 2), .ref (a + 3), .ref (a + 4), .ref (a + 5), .ref (a + 6), .int oa, .int 0]) := by rw [e_h5]; exact va_up_eq
  have F_h5_b : h5 b = .inr (8, [.int lb, .ref (b + 1), .ref (b + 2), .ref (b + 3), .ref (b + 4), .ref (b + 5), .ref (b + 6), .int ob, .int 0]) := by rw [e_h5, va_up_neq (hab)]; exact F_h_b
  have FR_h5 : Fr h h5 (fun j => j = a) := FR_h.zup e_h5 (by first | exact rfl | exact Or.inl rfl | exact Or.inr rfl | exact ⟨by decide, by decide⟩ | decide | omega)
  clear F_h_a F_h_b FR_h e_h5
  refine WX.s1 rfl rfl ?_
  refine WX.get1 (fs := [.int la, .ref (a + 1), .ref (a + 2), .ref (a + 3), .ref (a + 4), .ref (a + 5), .ref (a + 6), .int oa, .int 0]) rfl (ha) (F_h5_a) rfl ?_
  refine WX.if_ rfl (fun c_12 => absurd c_12 (by decide)) (fun c_12 => ?_)
  clear c_12
  exact WX.ret0 rfl (kk h5 FR_h5 F_h5_a)
set_option maxRecDepth 20000 in
theorem x_lbeg0 {d n s : Nat} {h : Nat → aE} {lu lki lb lsh lbe : Int32} {b : Nat} {ta tha tb : Int32} (hn : 190 ≤ n) (hb : b < n) (hab : b ≠ 92) (F_h_89 : h 89 = .inr (5, [.ref 90, .ref 91, .int lu, .ref 92, .ref 96, .ref 100, .ref 67, .ref 106, .int lki, .int lb, .int lsh, .int lbe])) (F_h_92 : h 92 = .inr (0, [.ref 93, .ref 94, .ref 95, .int ta, .int tha])) (F_h_b : h b = .inr (0, [.ref (b + 1), .ref (b + 2), .ref (b + 3), .int tb, .int 0]))  {Ψ : Option Value → aH → Prop} (kk : ∀ h', Fr h h' (fun j => j = 92) → h' 92 = .inr (0, [.ref 93, .ref 94, .ref 95, .int ta, .int 0]) → Ψ none (n, s, h')) : WO (mM (d + 2)) 52 [.ref 89, .ref b] (n, s, h) Ψ := by
  refine WO.of (Nat.le_of_ble_eq_true rfl) ?_
  have FR_h : Fr h h (fun j => j = 92) := Fr.rf
  show WX (lk tX5_begin) (mM (d + 1)) Ψ 0 [(0, .ref 89), (1, .ref b)] [] (n, s, h)
  refine WX.s1 rfl rfl ?_
  refine WX.get1 (fs := [.ref 90, .ref 91, .int lu, .ref 92, .ref 96, .ref 100, .ref 67, .ref 106, .int lki, .int lb, .int lsh, .int lbe]) rfl (ltN hn (by decide)) (F_h_89) rfl ?_
  refine WX.s1 rfl rfl ?_
  refine WX.callC (vs := [.ref 92, .ref b]) rfl rfl rfl (Nat.le_of_ble_eq_true rfl) (rcv_ok (ltN hn (by decide)) F_h_92) ?_
  refine x_cbec0 (ltN hn (by decide)) hb hab F_h_92 F_h_b (fun h5 fr F_h5_92 => ?_)
  have FR_h5 : Fr h h5 (fun j => j = 92) := FR_h.ztr fr
  show WX _ _ _ 8 [(0, .ref 89), (1, .ref b)] [] (n, s, h5)
  exact WX.ret0 rfl (kk h5 FR_h5 F_h5_92)
set_option maxRecDepth 20000 in
theorem x_kbeg0 {d n s : Nat} {h : Nat → aE} {c ba wi cho : Nat} {gr u di ad mo bi ob sta : Int32} {b : Nat} {la oa tha lb ob2 : Int32}  (hc : c + 26 < n) (hb : b < n) (hab : b ≠ c + 13) (F_h_c : h c = .inr (1, [.ref ba, .ref wi, .int gr, .ref (c + 1), .ref (c + 2), .ref (c + 5), .int u, .int di, .int ad, .ref (c + 6), .ref (c + 13), .ref (c + 20), .ref cho, .ref (c + 3), .int mo, .int bi, .int ob, .int sta])) (F_h__c_13_ : h (c + 13) = .inr (8, [.int la, .ref (c + 13 + 1), .ref (c + 13 + 2), .ref (c + 13 + 3), .ref (c + 13 + 4), .ref (c + 13 + 5), .ref (c + 13 + 6), .int oa, .int tha])) (F_h_b : h b = .inr (8, [.int lb, .ref (b + 1), .ref (b + 2), .ref (b + 3), .ref (b + 4), .ref (b + 5), .ref (b + 6), .int ob2, .int 0]))  {Ψ : Option Value → aH → Prop} (kk : ∀ h', Fr h h' (fun j => j = c + 13) → h' (c + 13) = .inr (8, [.int la, .ref (c + 13 + 1), .ref (c + 13 + 2), .ref (c + 13 + 3), .ref (c + 13 + 4), .ref (c + 13 + 5), .ref (c + 13 + 6), .int oa, .int 0]) → Ψ none (n, s, h')) : WO (mM (d + 2)) 9 [.ref c, .ref b] (n, s, h) Ψ := by
  refine WO.of (Nat.le_of_ble_eq_true rfl) ?_
  have FR_h : Fr h h (fun j => j = c + 13) := Fr.rf
  show WX (lk tX1_begin) (mM (d + 1)) Ψ 0 [(0, .ref c), (1, .ref b)] [] (n, s, h)
  refine WX.s1 rfl rfl ?_
  refine WX.get1 (fs := [.ref ba, .ref wi, .int gr, .ref (c + 1), .ref (c + 2), .ref (c + 5), .int u, .int di, .int ad, .ref (c + 6), .ref (c + 13), .ref (c + 20), .ref cho, .ref (c + 3), .int mo, .int bi, .int ob, .int sta]) rfl (by omega) (F_h_c) rfl ?_
  refine WX.s1 rfl rfl ?_
  refine WX.callC (vs := [.ref (c + 13), .ref b]) rfl rfl rfl (Nat.le_of_ble_eq_true rfl) (rcv_ok (by omega) F_h__c_13_) ?_
  refine x_sbec0 (by omega) hb hab F_h__c_13_ F_h_b (fun h5 fr F_h5__c_13_ => ?_)
  have FR_h5 : Fr h h5 (fun j => j = c + 13) := FR_h.ztr fr
  show WX _ _ _ 8 [(0, .ref c), (1, .ref b)] [] (n, s, h5)
  exact WX.ret0 rfl (kk h5 FR_h5 F_h5__c_13_)
set_option maxRecDepth 20000 in
theorem x_pbeg0 {d n s : Nat} {h : Nat → aE} {lu lki lb lsh lbe : Int32} {cnt ta tha tb : Int32} {la lb2 ta2 : Nat → Int32} {o0 th0 q0 o1 th1 q1 o2 th2 q2 : Int32} (hn : 190 ≤ n)  (F_h_81 : h 81 = .inr (6, [.ref 82, .ref 89, .ref 108, .ref 135, .ref 162, .ref 86, .ref 87, .int cnt, .ref 88])) (F_h_89 : h 89 = .inr (5, [.ref 90, .ref 91, .int lu, .ref 92, .ref 96, .ref 100, .ref 67, .ref 106, .int lki, .int lb, .int lsh, .int lbe])) (F_h_92 : h 92 = .inr (0, [.ref 93, .ref 94, .ref 95, .int ta, .int tha])) (F_h_9 : h 9 = .inr (9, [.ref 10, .ref 12, .ref 16, .ref 23, .ref 30, .ref 37])) (F_h_12 : h 12 = .inr (0, [.ref 13, .ref 14, .ref 15, .int tb, .int 0])) (F_h_108 : h 108 = .inr (1, [.ref (aBig + 3), .ref (aBig + 4), .int 9, .ref 109, .ref 110, .ref 113, .int 0, .int 0, .int 0, .ref 114, .ref 121, .ref 128, .ref 114, .ref 111, .int 0, .int 0, .int 0, .int 0])) (F_h_121 : h 121 = .inr (8, [.int 35, .ref 122, .ref 123, .ref 124, .ref 125, .ref 126, .ref 127, .int o0, .int th0])) (F_h_16 : h 16 = .inr (8, [.int 35, .ref 17, .ref 18, .ref 19, .ref 20, .ref 21, .ref 22, .int q0, .int 0])) (F_h_135 : h 135 = .inr (1, [.ref (aBig + 5), .ref (aBig + 6), .int 8, .ref 136, .ref 137, .ref 140, .int 0, .int 0, .int 0, .ref 141, .ref 148, .ref 155, .ref 141, .ref 138, .int 0, .int 0, .int 0, .int 0])) (F_h_148 : h 148 = .inr (8, [.int 31, .ref 149, .ref 150, .ref 151, .ref 152, .ref 153, .ref 154, .int o1, .int th1])) (F_h_23 : h 23 = .inr (8, [.int 31, .ref 24, .ref 25, .ref 26, .ref 27, .ref 28, .ref 29, .int q1, .int 0])) (F_h_162 : h 162 = .inr (1, [.ref (aBig + 7), .ref (aBig + 8), .int 9, .ref 163, .ref 164, .ref 167, .int 0, .int 0, .int 0, .ref 168, .ref 175, .ref 182, .ref 168, .ref 165, .int 0, .int 0, .int 0, .int 0])) (F_h_175 : h 175 = .inr (8, [.int 52, .ref 176, .ref 177, .ref 178, .ref 179, .ref 180, .ref 181, .int o2, .int th2])) (F_h_30 : h 30 = .inr (8, [.int 52, .ref 31, .ref 32, .ref 33, .ref 34, .ref 35, .ref 36, .int q2, .int 0])) (F_h_37 : h 37 = .inl (1, 3, .inl la)) (F_h_86 : h 86 = .inl (1, 3, .inl lb2)) (F_h_88 : h 88 = .inl (1, 12, .inl ta2))  {Ψ : Option Value → aH → Prop} (kk : ∀ h', Fr h h' (fun j => j = 86 ∨ j = 88 ∨ j = 92 ∨ j = 121 ∨ j = 148 ∨ j = 175) → h' 92 = .inr (0, [.ref 93, .ref 94, .ref 95, .int ta, .int 0]) → h' 121 = .inr (8, [.int 35, .ref 122, .ref 123, .ref 124, .ref 125, .ref 126, .ref 127, .int o0, .int 0]) → h' 148 = .inr (8, [.int 31, .ref 149, .ref 150, .ref 151, .ref 152, .ref 153, .ref 154, .int o1, .int 0]) → h' 175 = .inr (8, [.int 52, .ref 176, .ref 177, .ref 178, .ref 179, .ref 180, .ref 181, .int o2, .int 0]) → (∃ g, h' 86 = .inl (1, 3, .inl g)) → (∃ g, h' 88 = .inl (1, 12, .inl g)) → Ψ none (n, s, h')) : WO (mM (d + 3)) 69 [.ref 81, .ref 9] (n, s, h) Ψ := by
  refine WO.of (Nat.le_of_ble_eq_true rfl) ?_
  have FR_h : Fr h h (fun j => j = 86 ∨ j = 88 ∨ j = 92 ∨ j = 121 ∨ j = 148 ∨ j = 175) := Fr.rf
  show WX (lk tX6_begin) (mM (d + 2)) Ψ 0 [(0, .ref 81), (1, .ref 9)] [] (n, s, h)
  refine WX.s1 rfl rfl ?_
  refine WX.get1 (fs := [.ref 82, .ref 89, .ref 108, .ref 135, .ref 162, .ref 86, .ref 87, .int cnt, .ref 88]) rfl (ltN hn (by decide)) (F_h_81) rfl ?_
  refine WX.s1 rfl rfl ?_
  refine WX.get1 (fs := [.ref 10, .ref 12, .ref 16, .ref 23, .ref 30, .ref 37]) rfl (ltN hn (by decide)) (F_h_9) rfl ?_
  refine WX.callC (vs := [.ref 89, .ref 12]) rfl rfl rfl (Nat.le_of_ble_eq_true rfl) (rcv_ok (ltN hn (by decide)) F_h_89) ?_
  refine x_lbeg0 hn (ltN hn (by decide)) (by decide) F_h_89 F_h_92 F_h_12 (fun h8 fr F_h8_92 => ?_)
  have F_h8_81 : h8 81 = .inr (6, [.ref 82, .ref 89, .ref 108, .ref 135, .ref 162, .ref 86, .ref 87, .int cnt, .ref 88]) := (fr _ (by first | decide | omega)).trans F_h_81
  have F_h8_9 : h8 9 = .inr (9, [.ref 10, .ref 12, .ref 16, .ref 23, .ref 30, .ref 37]) := (fr _ (by first | decide | omega)).trans F_h_9
  have F_h8_108 : h8 108 = .inr (1, [.ref (aBig + 3), .ref (aBig + 4), .int 9, .ref 109, .ref 110, .ref 113, .int 0, .int 0, .int 0, .ref 114, .ref 121, .ref 128, .ref 114, .ref 111, .int 0, .int 0, .int 0, .int 0]) := (fr _ (by first | decide | omega)).trans F_h_108
  have F_h8_121 : h8 121 = .inr (8, [.int 35, .ref 122, .ref 123, .ref 124, .ref 125, .ref 126, .ref 127, .int o0, .int th0]) := (fr _ (by first | decide | omega)).trans F_h_121
  have F_h8_16 : h8 16 = .inr (8, [.int 35, .ref 17, .ref 18, .ref 19, .ref 20, .ref 21, .ref 22, .int q0, .int 0]) := (fr _ (by first | decide | omega)).trans F_h_16
  have F_h8_135 : h8 135 = .inr (1, [.ref (aBig + 5), .ref (aBig + 6), .int 8, .ref 136, .ref 137, .ref 140, .int 0, .int 0, .int 0, .ref 141, .ref 148, .ref 155, .ref 141, .ref 138, .int 0, .int 0, .int 0, .int 0]) := (fr _ (by first | decide | omega)).trans F_h_135
  have F_h8_148 : h8 148 = .inr (8, [.int 31, .ref 149, .ref 150, .ref 151, .ref 152, .ref 153, .ref 154, .int o1, .int th1]) := (fr _ (by first | decide | omega)).trans F_h_148
  have F_h8_23 : h8 23 = .inr (8, [.int 31, .ref 24, .ref 25, .ref 26, .ref 27, .ref 28, .ref 29, .int q1, .int 0]) := (fr _ (by first | decide | omega)).trans F_h_23
  have F_h8_162 : h8 162 = .inr (1, [.ref (aBig + 7), .ref (aBig + 8), .int 9, .ref 163, .ref 164, .ref 167, .int 0, .int 0, .int 0, .ref 168, .ref 175, .ref 182, .ref 168, .ref 165, .int 0, .int 0, .int 0, .int 0]) := (fr _ (by first | decide | omega)).trans F_h_162
  have F_h8_175 : h8 175 = .inr (8, [.int 52, .ref 176, .ref 177, .ref 178, .ref 179, .ref 180, .ref 181, .int o2, .int th2]) := (fr _ (by first | decide | omega)).trans F_h_175
  have F_h8_30 : h8 30 = .inr (8, [.int 52, .ref 31, .ref 32, .ref 33, .ref 34, .ref 35, .ref 36, .int q2, .int 0]) := (fr _ (by first | decide | omega)).trans F_h_30
  have F_h8_37 : h8 37 = .inl (1, 3, .inl la) := (fr _ (by first | decide | omega)).trans F_h_37
  have F_h8_86 : h8 86 = .inl (1, 3, .inl lb2) := (fr _ (by first | decide | omega)).trans F_h_86
  have F_h8_88 : h8 88 = .inl (1, 12, .inl ta2) := (fr _ (by first | decide | omega)).trans F_h_88
  have FR_h8 : Fr h h8 (fun j => j = 86 ∨ j = 88 ∨ j = 92 ∨ j = 121 ∨ j = 148 ∨ j = 175) := FR_h.zsub fr (fun j hj => by omega)
  show WX _ _ _ 11 [(0, .ref 81), (1, .ref 9)] [] (n, s, h8)
  refine WX.s1 rfl rfl ?_
  refine WX.get1 (fs := [.ref 82, .ref 89, .ref 108, .ref 135, .ref 162, .ref 86, .ref 87, .int cnt, .ref 88]) rfl (ltN hn (by decide)) (F_h8_81) rfl ?_
  refine WX.s1 rfl rfl ?_
  refine WX.get1 (fs := [.ref 10, .ref 12, .ref 16, .ref 23, .ref 30, .ref 37]) rfl (ltN hn (by decide)) (F_h8_9) rfl ?_
  refine WX.callC (vs := [.ref 108, .ref 16]) rfl rfl rfl (Nat.le_of_ble_eq_true rfl) (rcv_ok (ltN hn (by decide)) F_h8_108) ?_
  refine x_kbeg0 (ltN hn (by decide)) (ltN hn (by decide)) (by decide) F_h8_108 F_h8_121 F_h8_16 (fun h19 fr F_h19_121 => ?_)
  have F_h19_81 : h19 81 = .inr (6, [.ref 82, .ref 89, .ref 108, .ref 135, .ref 162, .ref 86, .ref 87, .int cnt, .ref 88]) := (fr _ (by first | decide | omega)).trans F_h8_81
  have F_h19_92 : h19 92 = .inr (0, [.ref 93, .ref 94, .ref 95, .int ta, .int 0]) := (fr _ (by first | decide | omega)).trans F_h8_92
  have F_h19_9 : h19 9 = .inr (9, [.ref 10, .ref 12, .ref 16, .ref 23, .ref 30, .ref 37]) := (fr _ (by first | decide | omega)).trans F_h8_9
  have F_h19_135 : h19 135 = .inr (1, [.ref (aBig + 5), .ref (aBig + 6), .int 8, .ref 136, .ref 137, .ref 140, .int 0, .int 0, .int 0, .ref 141, .ref 148, .ref 155, .ref 141, .ref 138, .int 0, .int 0, .int 0, .int 0]) := (fr _ (by first | decide | omega)).trans F_h8_135
  have F_h19_148 : h19 148 = .inr (8, [.int 31, .ref 149, .ref 150, .ref 151, .ref 152, .ref 153, .ref 154, .int o1, .int th1]) := (fr _ (by first | decide | omega)).trans F_h8_148
  have F_h19_23 : h19 23 = .inr (8, [.int 31, .ref 24, .ref 25, .ref 26, .ref 27, .ref 28, .ref 29, .int q1, .int 0]) := (fr _ (by first | decide | omega)).trans F_h8_23
  have F_h19_162 : h19 162 = .inr (1, [.ref (aBig + 7), .ref (aBig + 8), .int 9, .ref 163, .ref 164, .ref 167, .int 0, .int 0, .int 0, .ref 168, .ref 175, .ref 182, .ref 168, .ref 165, .int 0, .int 0, .int 0, .int 0]) := (fr _ (by first | decide | omega)).trans F_h8_162
  have F_h19_175 : h19 175 = .inr (8, [.int 52, .ref 176, .ref 177, .ref 178, .ref 179, .ref 180, .ref 181, .int o2, .int th2]) := (fr _ (by first | decide | omega)).trans F_h8_175
  have F_h19_30 : h19 30 = .inr (8, [.int 52, .ref 31, .ref 32, .ref 33, .ref 34, .ref 35, .ref 36, .int q2, .int 0]) := (fr _ (by first | decide | omega)).trans F_h8_30
  have F_h19_37 : h19 37 = .inl (1, 3, .inl la) := (fr _ (by first | decide | omega)).trans F_h8_37
  have F_h19_86 : h19 86 = .inl (1, 3, .inl lb2) := (fr _ (by first | decide | omega)).trans F_h8_86
  have F_h19_88 : h19 88 = .inl (1, 12, .inl ta2) := (fr _ (by first | decide | omega)).trans F_h8_88
  have FR_h19 : Fr h h19 (fun j => j = 86 ∨ j = 88 ∨ j = 92 ∨ j = 121 ∨ j = 148 ∨ j = 175) := FR_h8.zsub fr (fun j hj => by omega)
  show WX _ _ _ 22 [(0, .ref 81), (1, .ref 9)] [] (n, s, h19)
  refine WX.s1 rfl rfl ?_
  refine WX.get1 (fs := [.ref 82, .ref 89, .ref 108, .ref 135, .ref 162, .ref 86, .ref 87, .int cnt, .ref 88]) rfl (ltN hn (by decide)) (F_h19_81) rfl ?_
  refine WX.s1 rfl rfl ?_
  refine WX.get1 (fs := [.ref 10, .ref 12, .ref 16, .ref 23, .ref 30, .ref 37]) rfl (ltN hn (by decide)) (F_h19_9) rfl ?_
  refine WX.callC (vs := [.ref 135, .ref 23]) rfl rfl rfl (Nat.le_of_ble_eq_true rfl) (rcv_ok (ltN hn (by decide)) F_h19_135) ?_
  refine x_kbeg0 (ltN hn (by decide)) (ltN hn (by decide)) (by decide) F_h19_135 F_h19_148 F_h19_23 (fun h30 fr F_h30_148 => ?_)
  have F_h30_81 : h30 81 = .inr (6, [.ref 82, .ref 89, .ref 108, .ref 135, .ref 162, .ref 86, .ref 87, .int cnt, .ref 88]) := (fr _ (by first | decide | omega)).trans F_h19_81
  have F_h30_92 : h30 92 = .inr (0, [.ref 93, .ref 94, .ref 95, .int ta, .int 0]) := (fr _ (by first | decide | omega)).trans F_h19_92
  have F_h30_9 : h30 9 = .inr (9, [.ref 10, .ref 12, .ref 16, .ref 23, .ref 30, .ref 37]) := (fr _ (by first | decide | omega)).trans F_h19_9
  have F_h30_121 : h30 121 = .inr (8, [.int 35, .ref 122, .ref 123, .ref 124, .ref 125, .ref 126, .ref 127, .int o0, .int 0]) := (fr _ (by first | decide | omega)).trans F_h19_121
  have F_h30_162 : h30 162 = .inr (1, [.ref (aBig + 7), .ref (aBig + 8), .int 9, .ref 163, .ref 164, .ref 167, .int 0, .int 0, .int 0, .ref 168, .ref 175, .ref 182, .ref 168, .ref 165, .int 0, .int 0, .int 0, .int 0]) := (fr _ (by first | decide | omega)).trans F_h19_162
  have F_h30_175 : h30 175 = .inr (8, [.int 52, .ref 176, .ref 177, .ref 178, .ref 179, .ref 180, .ref 181, .int o2, .int th2]) := (fr _ (by first | decide | omega)).trans F_h19_175
  have F_h30_30 : h30 30 = .inr (8, [.int 52, .ref 31, .ref 32, .ref 33, .ref 34, .ref 35, .ref 36, .int q2, .int 0]) := (fr _ (by first | decide | omega)).trans F_h19_30
  have F_h30_37 : h30 37 = .inl (1, 3, .inl la) := (fr _ (by first | decide | omega)).trans F_h19_37
  have F_h30_86 : h30 86 = .inl (1, 3, .inl lb2) := (fr _ (by first | decide | omega)).trans F_h19_86
  have F_h30_88 : h30 88 = .inl (1, 12, .inl ta2) := (fr _ (by first | decide | omega)).trans F_h19_88
  have FR_h30 : Fr h h30 (fun j => j = 86 ∨ j = 88 ∨ j = 92 ∨ j = 121 ∨ j = 148 ∨ j = 175) := FR_h19.zsub fr (fun j hj => by omega)
  show WX _ _ _ 33 [(0, .ref 81), (1, .ref 9)] [] (n, s, h30)
  refine WX.s1 rfl rfl ?_
  refine WX.get1 (fs := [.ref 82, .ref 89, .ref 108, .ref 135, .ref 162, .ref 86, .ref 87, .int cnt, .ref 88]) rfl (ltN hn (by decide)) (F_h30_81) rfl ?_
  refine WX.s1 rfl rfl ?_
  refine WX.get1 (fs := [.ref 10, .ref 12, .ref 16, .ref 23, .ref 30, .ref 37]) rfl (ltN hn (by decide)) (F_h30_9) rfl ?_
  refine WX.callC (vs := [.ref 162, .ref 30]) rfl rfl rfl (Nat.le_of_ble_eq_true rfl) (rcv_ok (ltN hn (by decide)) F_h30_162) ?_
  refine x_kbeg0 (ltN hn (by decide)) (ltN hn (by decide)) (by decide) F_h30_162 F_h30_175 F_h30_30 (fun h41 fr F_h41_175 => ?_)
  have F_h41_81 : h41 81 = .inr (6, [.ref 82, .ref 89, .ref 108, .ref 135, .ref 162, .ref 86, .ref 87, .int cnt, .ref 88]) := (fr _ (by first | decide | omega)).trans F_h30_81
  have F_h41_92 : h41 92 = .inr (0, [.ref 93, .ref 94, .ref 95, .int ta, .int 0]) := (fr _ (by first | decide | omega)).trans F_h30_92
  have F_h41_9 : h41 9 = .inr (9, [.ref 10, .ref 12, .ref 16, .ref 23, .ref 30, .ref 37]) := (fr _ (by first | decide | omega)).trans F_h30_9
  have F_h41_121 : h41 121 = .inr (8, [.int 35, .ref 122, .ref 123, .ref 124, .ref 125, .ref 126, .ref 127, .int o0, .int 0]) := (fr _ (by first | decide | omega)).trans F_h30_121
  have F_h41_148 : h41 148 = .inr (8, [.int 31, .ref 149, .ref 150, .ref 151, .ref 152, .ref 153, .ref 154, .int o1, .int 0]) := (fr _ (by first | decide | omega)).trans F_h30_148
  have F_h41_37 : h41 37 = .inl (1, 3, .inl la) := (fr _ (by first | decide | omega)).trans F_h30_37
  have F_h41_86 : h41 86 = .inl (1, 3, .inl lb2) := (fr _ (by first | decide | omega)).trans F_h30_86
  have F_h41_88 : h41 88 = .inl (1, 12, .inl ta2) := (fr _ (by first | decide | omega)).trans F_h30_88
  have FR_h41 : Fr h h41 (fun j => j = 86 ∨ j = 88 ∨ j = 92 ∨ j = 121 ∨ j = 148 ∨ j = 175) := FR_h30.zsub fr (fun j hj => by omega)
  show WX _ _ _ 44 [(0, .ref 81), (1, .ref 9)] [] (n, s, h41)
  refine WX.s1 rfl rfl ?_
  refine WX.get1 (fs := [.ref 10, .ref 12, .ref 16, .ref 23, .ref 30, .ref 37]) rfl (ltN hn (by decide)) (F_h41_9) rfl ?_
  refine WX.s1 rfl rfl ?_
  refine WX.s1 rfl rfl ?_
  refine WX.get1 (fs := [.ref 82, .ref 89, .ref 108, .ref 135, .ref 162, .ref 86, .ref 87, .int cnt, .ref 88]) rfl (ltN hn (by decide)) (F_h41_81) rfl ?_
  refine WX.s1 rfl rfl ?_
  refine WX.s1 rfl rfl ?_
  refine WX.get1 (fs := [.ref 82, .ref 89, .ref 108, .ref 135, .ref 162, .ref 86, .ref 87, .int cnt, .ref 88]) rfl (ltN hn (by decide)) (F_h41_81) rfl ?_
  refine WX.len1 rfl (Or.inl ⟨ltN hn (by decide), by decide⟩) (F_h41_86) ?_
  refine WX.copyN rfl (Nat.le_of_ble_eq_true rfl) (Or.inl (ltN hn (by decide))) (F_h41_37) (ltN hn (by decide)) (F_h41_86) (p := 0) (q := 0) (c := 3) rfl rfl rfl (by decide) (by decide) (by decide) (by decide) (fun g59 h59 e_g59 e_h59 => ?_)
  have F_h59_81 : h59 81 = .inr (6, [.ref 82, .ref 89, .ref 108, .ref 135, .ref 162, .ref 86, .ref 87, .int cnt, .ref 88]) := by rw [e_h59, va_up_neq (by decide)]; exact F_h41_81
  have F_h59_92 : h59 92 = .inr (0, [.ref 93, .ref 94, .ref 95, .int ta, .int 0]) := by rw [e_h59, va_up_neq (by decide)]; exact F_h41_92
  have F_h59_9 : h59 9 = .inr (9, [.ref 10, .ref 12, .ref 16, .ref 23, .ref 30, .ref 37]) := by rw [e_h59, va_up_neq (by decide)]; exact F_h41_9
  have F_h59_121 : h59 121 = .inr (8, [.int 35, .ref 122, .ref 123, .ref 124, .ref 125, .ref 126, .ref 127, .int o0, .int 0]) := by rw [e_h59, va_up_neq (by decide)]; exact F_h41_121
  have F_h59_148 : h59 148 = .inr (8, [.int 31, .ref 149, .ref 150, .ref 151, .ref 152, .ref 153, .ref 154, .int o1, .int 0]) := by rw [e_h59, va_up_neq (by decide)]; exact F_h41_148
  have F_h59_175 : h59 175 = .inr (8, [.int 52, .ref 176, .ref 177, .ref 178, .ref 179, .ref 180, .ref 181, .int o2, .int 0]) := by rw [e_h59, va_up_neq (by decide)]; exact F_h41_175
  have F_h59_37 : h59 37 = .inl (1, 3, .inl la) := by rw [e_h59, va_up_neq (by decide)]; exact F_h41_37
  have F_h59_86 : h59 86 = .inl (1, 3, .inl g59) := by rw [e_h59]; exact va_up_eq
  have F_h59_88 : h59 88 = .inl (1, 12, .inl ta2) := by rw [e_h59, va_up_neq (by decide)]; exact F_h41_88
  have FR_h59 : Fr h h59 (fun j => j = 86 ∨ j = 88 ∨ j = 92 ∨ j = 121 ∨ j = 148 ∨ j = 175) := FR_h41.zup e_h59 (by first | exact rfl | exact Or.inl rfl | exact Or.inr rfl | exact ⟨by decide, by decide⟩ | decide | omega)
  clear F_h41_81 F_h41_92 F_h41_9 F_h41_121 F_h41_148 F_h41_175 F_h41_37 F_h41_86 F_h41_88 FR_h41 e_h59
  refine WX.s1 rfl rfl ?_
  refine WX.get1 (fs := [.ref 82, .ref 89, .ref 108, .ref 135, .ref 162, .ref 86, .ref 87, .int cnt, .ref 88]) rfl (ltN hn (by decide)) (F_h59_81) rfl ?_
  refine WX.s1 rfl rfl ?_
  refine WX.callC (vs := [.ref 88, .int 0]) rfl rfl rfl (Nat.le_of_ble_eq_true rfl) rfl ?_
  refine w_fill (ltN hn (by decide)) F_h59_88 (by decide) (fun h67 g67 fr F_h67_88 hg67 => ?_)
  have F_h67_81 : h67 81 = .inr (6, [.ref 82, .ref 89, .ref 108, .ref 135, .ref 162, .ref 86, .ref 87, .int cnt, .ref 88]) := (fr _ (by first | decide | omega)).trans F_h59_81
  have F_h67_92 : h67 92 = .inr (0, [.ref 93, .ref 94, .ref 95, .int ta, .int 0]) := (fr _ (by first | decide | omega)).trans F_h59_92
  have F_h67_9 : h67 9 = .inr (9, [.ref 10, .ref 12, .ref 16, .ref 23, .ref 30, .ref 37]) := (fr _ (by first | decide | omega)).trans F_h59_9
  have F_h67_121 : h67 121 = .inr (8, [.int 35, .ref 122, .ref 123, .ref 124, .ref 125, .ref 126, .ref 127, .int o0, .int 0]) := (fr _ (by first | decide | omega)).trans F_h59_121
  have F_h67_148 : h67 148 = .inr (8, [.int 31, .ref 149, .ref 150, .ref 151, .ref 152, .ref 153, .ref 154, .int o1, .int 0]) := (fr _ (by first | decide | omega)).trans F_h59_148
  have F_h67_175 : h67 175 = .inr (8, [.int 52, .ref 176, .ref 177, .ref 178, .ref 179, .ref 180, .ref 181, .int o2, .int 0]) := (fr _ (by first | decide | omega)).trans F_h59_175
  have F_h67_37 : h67 37 = .inl (1, 3, .inl la) := (fr _ (by first | decide | omega)).trans F_h59_37
  have F_h67_86 : h67 86 = .inl (1, 3, .inl g59) := (fr _ (by first | decide | omega)).trans F_h59_86
  have FR_h67 : Fr h h67 (fun j => j = 86 ∨ j = 88 ∨ j = 92 ∨ j = 121 ∨ j = 148 ∨ j = 175) := FR_h59.zsub fr (fun j hj => by omega)
  show WX _ _ _ 70 [(0, .ref 81), (1, .ref 9)] [] (n, s, h67)
  exact WX.ret0 rfl (kk h67 FR_h67 F_h67_92 F_h67_121 F_h67_148 F_h67_175 ⟨_, F_h67_86⟩ ⟨_, F_h67_88⟩)
set_option maxRecDepth 20000 in
theorem x_load0 {d n s : Nat} {h : Nat → aE} {fu fw fl fwi fe fle fdi fap fal fad : Int32} {s7 s1 hd7 hd1 : Int32} {ho7 ho1 : Int64} {dA hA a8 a2 : Nat → Int32} (hn : 190 ≤ n)  (F_h_82 : h 82 = .inr (3, [.ref 83, .int fu, .ref 84, .ref 85, .int fw, .int fl, .int fwi, .int fe, .int fle, .int fdi, .int fap, .int fal, .int fad])) (F_h_83 : h 83 = .inl (0, 16000, .inl dA)) (F_h_85 : h 85 = .inl (1, 4096, .inl hA)) (F_h_7 : h 7 = .inr (7, [.ref 8, .int 0, .int s7, .long ho7, .int hd7])) (F_h_8 : h 8 = .inl (0, 8000, .inl a8)) (F_h_1 : h 1 = .inr (7, [.ref 2, .int 0, .int s1, .long ho1, .int hd1])) (F_h_2 : h 2 = .inl (0, 8000, .inl a2))  {Ψ : Option Value → aH → Prop} (kk : ∀ h', Fr h h' (fun j => j = 82 ∨ j = 83 ∨ j = 85) → h' 82 = .inr (3, [.ref 83, .int 0, .ref 84, .ref 85, .int fw, .int fl, .int fwi, .int fe, .int fle, .int fdi, .int fap, .int fal, .int fad]) → (∃ g, h' 83 = .inl (0, 16000, .inl g)) → (∃ g, h' 85 = .inl (1, 4096, .inl g)) → Ψ none (n, s, h')) : WO (mM (d + 2)) 33 [.ref 82, .ref 7, .ref 1] (n, s, h) Ψ := by
  refine WO.of (Nat.le_of_ble_eq_true rfl) ?_
  have FR_h : Fr h h (fun j => j = 82 ∨ j = 83 ∨ j = 85) := Fr.rf
  show WX (lk tX3_load) (mM (d + 1)) Ψ 0 [(0, .ref 82), (1, .ref 7), (2, .ref 1)] [] (n, s, h)
  refine WX.s1 rfl rfl ?_
  refine WX.s1 rfl rfl ?_
  refine WX.get1 (fs := [.ref 8, .int 0, .int s7, .long ho7, .int hd7]) rfl (ltN hn (by decide)) (F_h_7) rfl ?_
  refine WX.s1 rfl rfl ?_
  refine WX.get1 (fs := [.ref 2, .int 0, .int s1, .long ho1, .int hd1]) rfl (ltN hn (by decide)) (F_h_1) rfl ?_
  refine WX.s1 rfl rfl ?_
  refine WX.put1 (fs := [.ref 83, .int fu, .ref 84, .ref 85, .int fw, .int fl, .int fwi, .int fe, .int fle, .int fdi, .int fap, .int fal, .int fad]) (fs' := [.ref 83, .int (0 + 0), .ref 84, .ref 85, .int fw, .int fl, .int fwi, .int fe, .int fle, .int fdi, .int fap, .int fal, .int fad]) rfl (ltN hn (by decide)) (F_h_82) (Nat.le_of_ble_eq_true rfl) (rfl) rfl (fun h10 e_h10 => ?_)
  have F_h10_82 : h10 82 = .inr (3, [.ref 83, .int (0 + 0), .ref 84, .ref 85, .int fw, .int fl, .int fwi, .int fe, .int fle, .int fdi, .int fap, .int fal, .int fad]) := by rw [e_h10]; exact va_up_eq
  have F_h10_83 : h10 83 = .inl (0, 16000, .inl dA) := by rw [e_h10, va_up_neq (by decide)]; exact F_h_83
  have F_h10_85 : h10 85 = .inl (1, 4096, .inl hA) := by rw [e_h10, va_up_neq (by decide)]; exact F_h_85
  have F_h10_7 : h10 7 = .inr (7, [.ref 8, .int 0, .int s7, .long ho7, .int hd7]) := by rw [e_h10, va_up_neq (by decide)]; exact F_h_7
  have F_h10_8 : h10 8 = .inl (0, 8000, .inl a8) := by rw [e_h10, va_up_neq (by decide)]; exact F_h_8
  have F_h10_1 : h10 1 = .inr (7, [.ref 2, .int 0, .int s1, .long ho1, .int hd1]) := by rw [e_h10, va_up_neq (by decide)]; exact F_h_1
  have F_h10_2 : h10 2 = .inl (0, 8000, .inl a2) := by rw [e_h10, va_up_neq (by decide)]; exact F_h_2
  have FR_h10 : Fr h h10 (fun j => j = 82 ∨ j = 83 ∨ j = 85) := FR_h.zup e_h10 (by first | exact rfl | exact Or.inl rfl | exact Or.inr rfl | exact ⟨by decide, by decide⟩ | decide | omega)
  clear F_h_82 F_h_83 F_h_85 F_h_7 F_h_8 F_h_1 F_h_2 FR_h e_h10
  refine WX.s1 rfl rfl ?_
  refine WX.get1 (fs := [.ref 83, .int (0 + 0), .ref 84, .ref 85, .int fw, .int fl, .int fwi, .int fe, .int fle, .int fdi, .int fap, .int fal, .int fad]) rfl (ltN hn (by decide)) (F_h10_82) rfl ?_
  refine WX.s1 rfl rfl ?_
  refine WX.get1 (fs := [.ref 83, .int (0 + 0), .ref 84, .ref 85, .int fw, .int fl, .int fwi, .int fe, .int fle, .int fdi, .int fap, .int fal, .int fad]) rfl (ltN hn (by decide)) (F_h10_82) rfl ?_
  refine WX.len1 rfl (Or.inl ⟨ltN hn (by decide), by decide⟩) (F_h10_83) ?_
  refine WX.icmp rfl (fun c_22 => ?_) (fun c_22 => absurd (by decide) c_22)
  refine WX.s1 rfl rfl ?_
  refine WX.get1 (fs := [.ref 8, .int 0, .int s7, .long ho7, .int hd7]) rfl (ltN hn (by decide)) (F_h10_7) rfl ?_
  refine WX.s1 rfl rfl ?_
  refine WX.s1 rfl rfl ?_
  refine WX.get1 (fs := [.ref 83, .int (0 + 0), .ref 84, .ref 85, .int fw, .int fl, .int fwi, .int fe, .int fle, .int fdi, .int fap, .int fal, .int fad]) rfl (ltN hn (by decide)) (F_h10_82) rfl ?_
  refine WX.s1 rfl rfl ?_
  refine WX.s1 rfl rfl ?_
  refine WX.get1 (fs := [.ref 8, .int 0, .int s7, .long ho7, .int hd7]) rfl (ltN hn (by decide)) (F_h10_7) rfl ?_
  refine WX.copyN rfl (Nat.le_of_ble_eq_true rfl) (Or.inl (ltN hn (by decide))) (F_h10_8) (ltN hn (by decide)) (F_h10_83) (p := 0) (q := 0) (c := 0) rfl rfl rfl (by decide) (by decide) (by decide) (by decide) (fun g45 h45 e_g45 e_h45 => ?_)
  have F_h45_82 : h45 82 = .inr (3, [.ref 83, .int (0 + 0), .ref 84, .ref 85, .int fw, .int fl, .int fwi, .int fe, .int fle, .int fdi, .int fap, .int fal, .int fad]) := by rw [e_h45, va_up_neq (by decide)]; exact F_h10_82
  have F_h45_83 : h45 83 = .inl (0, 16000, .inl g45) := by rw [e_h45]; exact va_up_eq
  have F_h45_85 : h45 85 = .inl (1, 4096, .inl hA) := by rw [e_h45, va_up_neq (by decide)]; exact F_h10_85
  have F_h45_7 : h45 7 = .inr (7, [.ref 8, .int 0, .int s7, .long ho7, .int hd7]) := by rw [e_h45, va_up_neq (by decide)]; exact F_h10_7
  have F_h45_8 : h45 8 = .inl (0, 8000, .inl a8) := by rw [e_h45, va_up_neq (by decide)]; exact F_h10_8
  have F_h45_1 : h45 1 = .inr (7, [.ref 2, .int 0, .int s1, .long ho1, .int hd1]) := by rw [e_h45, va_up_neq (by decide)]; exact F_h10_1
  have F_h45_2 : h45 2 = .inl (0, 8000, .inl a2) := by rw [e_h45, va_up_neq (by decide)]; exact F_h10_2
  have FR_h45 : Fr h h45 (fun j => j = 82 ∨ j = 83 ∨ j = 85) := FR_h10.zup e_h45 (by first | exact rfl | exact Or.inl rfl | exact Or.inr rfl | exact ⟨by decide, by decide⟩ | decide | omega)
  clear F_h10_82 F_h10_83 F_h10_85 F_h10_7 F_h10_8 F_h10_1 F_h10_2 FR_h10 e_h45
  refine WX.s1 rfl rfl ?_
  refine WX.get1 (fs := [.ref 2, .int 0, .int s1, .long ho1, .int hd1]) rfl (ltN hn (by decide)) (F_h45_1) rfl ?_
  refine WX.s1 rfl rfl ?_
  refine WX.s1 rfl rfl ?_
  refine WX.get1 (fs := [.ref 83, .int (0 + 0), .ref 84, .ref 85, .int fw, .int fl, .int fwi, .int fe, .int fle, .int fdi, .int fap, .int fal, .int fad]) rfl (ltN hn (by decide)) (F_h45_82) rfl ?_
  refine WX.s1 rfl rfl ?_
  refine WX.get1 (fs := [.ref 8, .int 0, .int s7, .long ho7, .int hd7]) rfl (ltN hn (by decide)) (F_h45_7) rfl ?_
  refine WX.s1 rfl rfl ?_
  refine WX.get1 (fs := [.ref 2, .int 0, .int s1, .long ho1, .int hd1]) rfl (ltN hn (by decide)) (F_h45_1) rfl ?_
  refine WX.copyN rfl (Nat.le_of_ble_eq_true rfl) (Or.inl (ltN hn (by decide))) (F_h45_2) (ltN hn (by decide)) (F_h45_83) (p := 0) (q := 0) (c := 0) rfl rfl rfl (by decide) (by decide) (by decide) (by decide) (fun g65 h65 e_g65 e_h65 => ?_)
  have F_h65_82 : h65 82 = .inr (3, [.ref 83, .int (0 + 0), .ref 84, .ref 85, .int fw, .int fl, .int fwi, .int fe, .int fle, .int fdi, .int fap, .int fal, .int fad]) := by rw [e_h65, va_up_neq (by decide)]; exact F_h45_82
  have F_h65_83 : h65 83 = .inl (0, 16000, .inl g65) := by rw [e_h65]; exact va_up_eq
  have F_h65_85 : h65 85 = .inl (1, 4096, .inl hA) := by rw [e_h65, va_up_neq (by decide)]; exact F_h45_85
  have F_h65_7 : h65 7 = .inr (7, [.ref 8, .int 0, .int s7, .long ho7, .int hd7]) := by rw [e_h65, va_up_neq (by decide)]; exact F_h45_7
  have F_h65_8 : h65 8 = .inl (0, 8000, .inl a8) := by rw [e_h65, va_up_neq (by decide)]; exact F_h45_8
  have F_h65_1 : h65 1 = .inr (7, [.ref 2, .int 0, .int s1, .long ho1, .int hd1]) := by rw [e_h65, va_up_neq (by decide)]; exact F_h45_1
  have F_h65_2 : h65 2 = .inl (0, 8000, .inl a2) := by rw [e_h65, va_up_neq (by decide)]; exact F_h45_2
  have FR_h65 : Fr h h65 (fun j => j = 82 ∨ j = 83 ∨ j = 85) := FR_h45.zup e_h65 (by first | exact rfl | exact Or.inl rfl | exact Or.inr rfl | exact ⟨by decide, by decide⟩ | decide | omega)
  clear F_h45_82 F_h45_83 F_h45_85 F_h45_7 F_h45_8 F_h45_1 F_h45_2 FR_h45 e_h65
  refine WX.s1 rfl rfl ?_
  refine WX.get1 (fs := [.ref 83, .int (0 + 0), .ref 84, .ref 85, .int fw, .int fl, .int fwi, .int fe, .int fle, .int fdi, .int fap, .int fal, .int fad]) rfl (ltN hn (by decide)) (F_h65_82) rfl ?_
  refine WX.s1 rfl rfl ?_
  refine WX.callC (vs := [.ref 85, .int (-1)]) rfl rfl rfl (Nat.le_of_ble_eq_true rfl) rfl ?_
  refine w_fill (ltN hn (by decide)) F_h65_85 (by decide) (fun h73 g73 fr F_h73_85 hg73 => ?_)
  have F_h73_82 : h73 82 = .inr (3, [.ref 83, .int (0 + 0), .ref 84, .ref 85, .int fw, .int fl, .int fwi, .int fe, .int fle, .int fdi, .int fap, .int fal, .int fad]) := (fr _ (by first | decide | omega)).trans F_h65_82
  have F_h73_83 : h73 83 = .inl (0, 16000, .inl g65) := (fr _ (by first | decide | omega)).trans F_h65_83
  have F_h73_7 : h73 7 = .inr (7, [.ref 8, .int 0, .int s7, .long ho7, .int hd7]) := (fr _ (by first | decide | omega)).trans F_h65_7
  have F_h73_8 : h73 8 = .inl (0, 8000, .inl a8) := (fr _ (by first | decide | omega)).trans F_h65_8
  have F_h73_1 : h73 1 = .inr (7, [.ref 2, .int 0, .int s1, .long ho1, .int hd1]) := (fr _ (by first | decide | omega)).trans F_h65_1
  have F_h73_2 : h73 2 = .inl (0, 8000, .inl a2) := (fr _ (by first | decide | omega)).trans F_h65_2
  have FR_h73 : Fr h h73 (fun j => j = 82 ∨ j = 83 ∨ j = 85) := FR_h65.zsub fr (fun j hj => by omega)
  show WX _ _ _ 76 [(0, .ref 82), (1, .ref 7), (2, .ref 1)] [] (n, s, h73)
  refine WX.s1 rfl rfl ?_
  refine WX.s1 (L' := [(0, .ref 82), (1, .ref 7), (2, .ref 1), (3, .int 0)]) rfl rfl ?_
  refine WX.s1 rfl rfl ?_
  refine WX.s1 rfl rfl ?_
  refine WX.get1 (fs := [.ref 83, .int (0 + 0), .ref 84, .ref 85, .int fw, .int fl, .int fwi, .int fe, .int fle, .int fdi, .int fap, .int fal, .int fad]) rfl (ltN hn (by decide)) (F_h73_82) rfl ?_
  refine WX.icmp rfl (fun c_83 => ?_) (fun c_83 => absurd (by decide) c_83)
  exact WX.ret0 rfl (kk h73 FR_h73 (by rw [F_h73_82]; rfl) ⟨_, F_h73_83⟩ ⟨_, F_h73_85⟩)
set_option maxRecDepth 20000 in
theorem x_obey {d n s : Nat} {h : Nat → aE} {fu fw fl fwi fe fle fdi fap fal fad : Int32} {ow ol owi : Int32} (hn : 190 ≤ n)  (F_h_82 : h 82 = .inr (3, [.ref 83, .int fu, .ref 84, .ref 85, .int fw, .int fl, .int fwi, .int fe, .int fle, .int fdi, .int fap, .int fal, .int fad]))  {Ψ : Option Value → aH → Prop} (kk : ∀ h', Fr h h' (fun j => j = 82) → h' 82 = .inr (3, [.ref 83, .int fu, .ref 84, .ref 85, .int ow, .int ol, .int owi, .int fe, .int fle, .int fdi, .int fap, .int fal, .int fad]) → Ψ none (n, s, h')) : WO (mM (d + 1)) 34 [.ref 82, .int ow, .int ol, .int owi] (n, s, h) Ψ := by
  refine WO.of (Nat.le_of_ble_eq_true rfl) ?_
  have FR_h : Fr h h (fun j => j = 82) := Fr.rf
  show WX (lk tX3_obey) (mM d) Ψ 0 [(0, .ref 82), (1, .int ow), (2, .int ol), (3, .int owi)] [] (n, s, h)
  refine WX.s1 rfl rfl ?_
  refine WX.s1 rfl rfl ?_
  refine WX.put1 (fs := [.ref 83, .int fu, .ref 84, .ref 85, .int fw, .int fl, .int fwi, .int fe, .int fle, .int fdi, .int fap, .int fal, .int fad]) (fs' := [.ref 83, .int fu, .ref 84, .ref 85, .int ow, .int fl, .int fwi, .int fe, .int fle, .int fdi, .int fap, .int fal, .int fad]) rfl (ltN hn (by decide)) (F_h_82) (Nat.le_of_ble_eq_true rfl) (rfl) rfl (fun h2 e_h2 => ?_)
  have F_h2_82 : h2 82 = .inr (3, [.ref 83, .int fu, .ref 84, .ref 85, .int ow, .int fl, .int fwi, .int fe, .int fle, .int fdi, .int fap, .int fal, .int fad]) := by rw [e_h2]; exact va_up_eq
  have FR_h2 : Fr h h2 (fun j => j = 82) := FR_h.zup e_h2 (by first | exact rfl | exact Or.inl rfl | exact Or.inr rfl | exact ⟨by decide, by decide⟩ | decide | omega)
  clear F_h_82 FR_h e_h2
  refine WX.s1 rfl rfl ?_
  refine WX.s1 rfl rfl ?_
  refine WX.put1 (fs := [.ref 83, .int fu, .ref 84, .ref 85, .int ow, .int fl, .int fwi, .int fe, .int fle, .int fdi, .int fap, .int fal, .int fad]) (fs' := [.ref 83, .int fu, .ref 84, .ref 85, .int ow, .int ol, .int fwi, .int fe, .int fle, .int fdi, .int fap, .int fal, .int fad]) rfl (ltN hn (by decide)) (F_h2_82) (Nat.le_of_ble_eq_true rfl) (rfl) rfl (fun h7 e_h7 => ?_)
  have F_h7_82 : h7 82 = .inr (3, [.ref 83, .int fu, .ref 84, .ref 85, .int ow, .int ol, .int fwi, .int fe, .int fle, .int fdi, .int fap, .int fal, .int fad]) := by rw [e_h7]; exact va_up_eq
  have FR_h7 : Fr h h7 (fun j => j = 82) := FR_h2.zup e_h7 (by first | exact rfl | exact Or.inl rfl | exact Or.inr rfl | exact ⟨by decide, by decide⟩ | decide | omega)
  clear F_h2_82 FR_h2 e_h7
  refine WX.s1 rfl rfl ?_
  refine WX.s1 rfl rfl ?_
  refine WX.put1 (fs := [.ref 83, .int fu, .ref 84, .ref 85, .int ow, .int ol, .int fwi, .int fe, .int fle, .int fdi, .int fap, .int fal, .int fad]) (fs' := [.ref 83, .int fu, .ref 84, .ref 85, .int ow, .int ol, .int owi, .int fe, .int fle, .int fdi, .int fap, .int fal, .int fad]) rfl (ltN hn (by decide)) (F_h7_82) (Nat.le_of_ble_eq_true rfl) (rfl) rfl (fun h12 e_h12 => ?_)
  have F_h12_82 : h12 82 = .inr (3, [.ref 83, .int fu, .ref 84, .ref 85, .int ow, .int ol, .int owi, .int fe, .int fle, .int fdi, .int fap, .int fal, .int fad]) := by rw [e_h12]; exact va_up_eq
  have FR_h12 : Fr h h12 (fun j => j = 82) := FR_h7.zup e_h12 (by first | exact rfl | exact Or.inl rfl | exact Or.inr rfl | exact ⟨by decide, by decide⟩ | decide | omega)
  clear F_h7_82 FR_h7 e_h12
  exact WX.ret0 rfl (kk h12 FR_h12 F_h12_82)
set_option maxRecDepth 20000 in
theorem x_endAt {d n s : Nat} {h : Nat → aE} {fu fw fl fwi fe fle fdi fap fal fad : Int32} {to ne : Int32} (hn : 190 ≤ n) (hne : (if fu < to then fu else to) = ne) (F_h_82 : h 82 = .inr (3, [.ref 83, .int fu, .ref 84, .ref 85, .int fw, .int fl, .int fwi, .int fe, .int fle, .int fdi, .int fap, .int fal, .int fad]))  {Ψ : Option Value → aH → Prop} (kk : ∀ h', Fr h h' (fun j => j = 82) → h' 82 = .inr (3, [.ref 83, .int fu, .ref 84, .ref 85, .int fw, .int fl, .int fwi, .int ne, .int fle, .int fdi, .int (-1), .int fal, .int fad]) → Ψ none (n, s, h')) : WO (mM (d + 1)) 35 [.ref 82, .int to] (n, s, h) Ψ := by
  refine WO.of (Nat.le_of_ble_eq_true rfl) ?_
  have FR_h : Fr h h (fun j => j = 82) := Fr.rf
  show WX (lk tX3_endAt) (mM d) Ψ 0 [(0, .ref 82), (1, .int to)] [] (n, s, h)
  refine WX.s1 rfl rfl ?_
  refine WX.s1 rfl rfl ?_
  refine WX.s1 rfl rfl ?_
  refine WX.get1 (fs := [.ref 83, .int fu, .ref 84, .ref 85, .int fw, .int fl, .int fwi, .int fe, .int fle, .int fdi, .int fap, .int fal, .int fad]) rfl (ltN hn (by decide)) (F_h_82) rfl ?_
  refine WX.s1 rfl rfl ?_
  show WX _ _ _ 9 [(0, .ref 82), (1, .int to)] [.int (if fu < to then fu else to), .ref 82] (n, s, h)
  rw [hne]
  refine WX.put1 (fs := [.ref 83, .int fu, .ref 84, .ref 85, .int fw, .int fl, .int fwi, .int fe, .int fle, .int fdi, .int fap, .int fal, .int fad]) (fs' := [.ref 83, .int fu, .ref 84, .ref 85, .int fw, .int fl, .int fwi, .int ne, .int fle, .int fdi, .int fap, .int fal, .int fad]) rfl (ltN hn (by decide)) (F_h_82) (Nat.le_of_ble_eq_true rfl) (rfl) rfl (fun h9 e_h9 => ?_)
  have F_h9_82 : h9 82 = .inr (3, [.ref 83, .int fu, .ref 84, .ref 85, .int fw, .int fl, .int fwi, .int ne, .int fle, .int fdi, .int fap, .int fal, .int fad]) := by rw [e_h9]; exact va_up_eq
  have FR_h9 : Fr h h9 (fun j => j = 82) := FR_h.zup e_h9 (by first | exact rfl | exact Or.inl rfl | exact Or.inr rfl | exact ⟨by decide, by decide⟩ | decide | omega)
  clear F_h_82 FR_h e_h9
  refine WX.s1 rfl rfl ?_
  refine WX.s1 rfl rfl ?_
  refine WX.put1 (fs := [.ref 83, .int fu, .ref 84, .ref 85, .int fw, .int fl, .int fwi, .int ne, .int fle, .int fdi, .int fap, .int fal, .int fad]) (fs' := [.ref 83, .int fu, .ref 84, .ref 85, .int fw, .int fl, .int fwi, .int ne, .int fle, .int fdi, .int (-1), .int fal, .int fad]) rfl (ltN hn (by decide)) (F_h9_82) (Nat.le_of_ble_eq_true rfl) (rfl) rfl (fun h14 e_h14 => ?_)
  have F_h14_82 : h14 82 = .inr (3, [.ref 83, .int fu, .ref 84, .ref 85, .int fw, .int fl, .int fwi, .int ne, .int fle, .int fdi, .int (-1), .int fal, .int fad]) := by rw [e_h14]; exact va_up_eq
  have FR_h14 : Fr h h14 (fun j => j = 82) := FR_h9.zup e_h14 (by first | exact rfl | exact Or.inl rfl | exact Or.inr rfl | exact ⟨by decide, by decide⟩ | decide | omega)
  clear F_h9_82 FR_h9 e_h14
  exact WX.ret0 rfl (kk h14 FR_h14 F_h14_82)
set_option maxRecDepth 20000 in
theorem x_same0 {d n s : Nat} {h : Nat → aE}  (hn : 190 ≤ n)    {Ψ : Option Value → aH → Prop} (kk : Ψ (some (.int 0)) (n, s, h)) : WO (mM (d + 1)) 37 [.ref 82, .int 0, .int 0] (n, s, h) Ψ := by
  refine WO.of (Nat.le_of_ble_eq_true rfl) ?_
  show WX (lk tX3_same) (mM d) Ψ 0 [(0, .ref 82), (1, .int 0), (2, .int 0)] [] (n, s, h)
  refine WX.s1 rfl rfl ?_
  refine WX.s1 rfl rfl ?_
  refine WX.s1 rfl rfl ?_
  refine WX.s1 (L' := [(0, .ref 82), (1, .int 0), (2, .int 0), (3, .int (0 + 1))]) rfl rfl ?_
  refine WX.s1 rfl rfl ?_
  refine WX.s1 rfl rfl ?_
  refine WX.icmp rfl (fun c_6 => ?_) (fun c_6 => absurd (by decide) c_6)
  clear c_6
  refine WX.s1 rfl rfl ?_
  refine WX.s1 rfl rfl ?_
  refine WX.icmp rfl (fun c_32 => ?_) (fun c_32 => absurd (by decide) c_32)
  clear c_32
  refine WX.s1 rfl rfl ?_
  exact WX.ret3 rfl (Or.inl rfl) kk
set_option maxRecDepth 20000 in
theorem x_ldrop {d n s : Nat} {h : Nat → aE} {lu lki lb lsh lbe : Int32} {a91 : Nat → Int32} (hn : 190 ≤ n)  (F_h_89 : h 89 = .inr (5, [.ref 90, .ref 91, .int lu, .ref 92, .ref 96, .ref 100, .ref 67, .ref 106, .int lki, .int lb, .int lsh, .int lbe])) (F_h_91 : h 91 = .inl (1, 256, .inl a91))  {Ψ : Option Value → aH → Prop} (kk : ∀ h', Fr h h' (fun j => j = 89 ∨ j = 91) → h' 89 = .inr (5, [.ref 90, .ref 91, .int 0, .ref 92, .ref 96, .ref 100, .ref 67, .ref 106, .int lki, .int lb, .int lsh, .int lbe]) → (∃ g, h' 91 = .inl (1, 256, .inl g) ∧ ∀ i, i < 256 → g i = 0) → Ψ none (n, s, h')) : WO (mM (d + 2)) 53 [.ref 89] (n, s, h) Ψ := by
  refine WO.of (Nat.le_of_ble_eq_true rfl) ?_
  have FR_h : Fr h h (fun j => j = 89 ∨ j = 91) := Fr.rf
  show WX (lk tX5_drop) (mM (d + 1)) Ψ 0 [(0, .ref 89)] [] (n, s, h)
  refine WX.s1 rfl rfl ?_
  refine WX.s1 rfl rfl ?_
  refine WX.put1 (fs := [.ref 90, .ref 91, .int lu, .ref 92, .ref 96, .ref 100, .ref 67, .ref 106, .int lki, .int lb, .int lsh, .int lbe]) (fs' := [.ref 90, .ref 91, .int 0, .ref 92, .ref 96, .ref 100, .ref 67, .ref 106, .int lki, .int lb, .int lsh, .int lbe]) rfl (ltN hn (by decide)) (F_h_89) (Nat.le_of_ble_eq_true rfl) (rfl) rfl (fun h2 e_h2 => ?_)
  have F_h2_89 : h2 89 = .inr (5, [.ref 90, .ref 91, .int 0, .ref 92, .ref 96, .ref 100, .ref 67, .ref 106, .int lki, .int lb, .int lsh, .int lbe]) := by rw [e_h2]; exact va_up_eq
  have F_h2_91 : h2 91 = .inl (1, 256, .inl a91) := by rw [e_h2, va_up_neq (by decide)]; exact F_h_91
  have FR_h2 : Fr h h2 (fun j => j = 89 ∨ j = 91) := FR_h.zup e_h2 (by first | exact rfl | exact Or.inl rfl | exact Or.inr rfl | exact ⟨by decide, by decide⟩ | decide | omega)
  clear F_h_89 F_h_91 FR_h e_h2
  refine WX.s1 rfl rfl ?_
  refine WX.get1 (fs := [.ref 90, .ref 91, .int 0, .ref 92, .ref 96, .ref 100, .ref 67, .ref 106, .int lki, .int lb, .int lsh, .int lbe]) rfl (ltN hn (by decide)) (F_h2_89) rfl ?_
  refine WX.s1 rfl rfl ?_
  refine WX.callC (vs := [.ref 91, .int 0]) rfl rfl rfl (Nat.le_of_ble_eq_true rfl) rfl ?_
  refine w_fill (ltN hn (by decide)) F_h2_91 (by decide) (fun h10 g10 fr F_h10_91 hg10 => ?_)
  have F_h10_89 : h10 89 = .inr (5, [.ref 90, .ref 91, .int 0, .ref 92, .ref 96, .ref 100, .ref 67, .ref 106, .int lki, .int lb, .int lsh, .int lbe]) := (fr _ (by first | decide | omega)).trans F_h2_89
  have FR_h10 : Fr h h10 (fun j => j = 89 ∨ j = 91) := FR_h2.zsub fr (fun j hj => by omega)
  show WX _ _ _ 13 [(0, .ref 89)] [] (n, s, h10)
  exact WX.ret0 rfl (kk h10 FR_h10 F_h10_89 ⟨_, F_h10_91, hg10⟩)
set_option maxRecDepth 20000 in
theorem x_kdrop {d n s : Nat} {h : Nat → aE} {c ba wi cho : Nat} {gr u di ad mo bi ob sta : Int32} {N : Nat} {a5 : Nat → Int32}  (hc : c + 26 < n) (hN : N < 2 ^ 31) (F_h_c : h c = .inr (1, [.ref ba, .ref wi, .int gr, .ref (c + 1), .ref (c + 2), .ref (c + 5), .int u, .int di, .int ad, .ref (c + 6), .ref (c + 13), .ref (c + 20), .ref cho, .ref (c + 3), .int mo, .int bi, .int ob, .int sta])) (F_h__c_5_ : h (c + 5) = .inl (1, N, .inl a5))  {Ψ : Option Value → aH → Prop} (kk : ∀ h', Fr h h' (fun j => j = c ∨ j = c + 5) → h' c = .inr (1, [.ref ba, .ref wi, .int gr, .ref (c + 1), .ref (c + 2), .ref (c + 5), .int 0, .int 0, .int 0, .ref (c + 6), .ref (c + 13), .ref (c + 20), .ref cho, .ref (c + 3), .int mo, .int bi, .int ob, .int sta]) → (∃ g, h' (c + 5) = .inl (1, N, .inl g) ∧ ∀ i, i < N → g i = 0) → Ψ none (n, s, h')) : WO (mM (d + 2)) 10 [.ref c] (n, s, h) Ψ := by
  refine WO.of (Nat.le_of_ble_eq_true rfl) ?_
  have FR_h : Fr h h (fun j => j = c ∨ j = c + 5) := Fr.rf
  show WX (lk tX1_drop) (mM (d + 1)) Ψ 0 [(0, .ref c)] [] (n, s, h)
  refine WX.s1 rfl rfl ?_
  refine WX.s1 rfl rfl ?_
  refine WX.put1 (fs := [.ref ba, .ref wi, .int gr, .ref (c + 1), .ref (c + 2), .ref (c + 5), .int u, .int di, .int ad, .ref (c + 6), .ref (c + 13), .ref (c + 20), .ref cho, .ref (c + 3), .int mo, .int bi, .int ob, .int sta]) (fs' := [.ref ba, .ref wi, .int gr, .ref (c + 1), .ref (c + 2), .ref (c + 5), .int 0, .int di, .int ad, .ref (c + 6), .ref (c + 13), .ref (c + 20), .ref cho, .ref (c + 3), .int mo, .int bi, .int ob, .int sta]) rfl (by omega) (F_h_c) (Nat.le_of_ble_eq_true rfl) (rfl) rfl (fun h2 e_h2 => ?_)
  have F_h2_c : h2 c = .inr (1, [.ref ba, .ref wi, .int gr, .ref (c + 1), .ref (c + 2), .ref (c + 5), .int 0, .int di, .int ad, .ref (c + 6), .ref (c + 13), .ref (c + 20), .ref cho, .ref (c + 3), .int mo, .int bi, .int ob, .int sta]) := by rw [e_h2]; exact va_up_eq
  have F_h2__c_5_ : h2 (c + 5) = .inl (1, N, .inl a5) := by rw [e_h2, va_up_neq (nek0 (a := 5) (by decide))]; exact F_h__c_5_
  have FR_h2 : Fr h h2 (fun j => j = c ∨ j = c + 5) := FR_h.zup e_h2 (by first | exact rfl | exact Or.inl rfl | exact Or.inr rfl | exact ⟨by decide, by decide⟩ | decide | omega)
  clear F_h_c F_h__c_5_ FR_h e_h2
  refine WX.s1 rfl rfl ?_
  refine WX.s1 rfl rfl ?_
  refine WX.put1 (fs := [.ref ba, .ref wi, .int gr, .ref (c + 1), .ref (c + 2), .ref (c + 5), .int 0, .int di, .int ad, .ref (c + 6), .ref (c + 13), .ref (c + 20), .ref cho, .ref (c + 3), .int mo, .int bi, .int ob, .int sta]) (fs' := [.ref ba, .ref wi, .int gr, .ref (c + 1), .ref (c + 2), .ref (c + 5), .int 0, .int 0, .int ad, .ref (c + 6), .ref (c + 13), .ref (c + 20), .ref cho, .ref (c + 3), .int mo, .int bi, .int ob, .int sta]) rfl (by omega) (F_h2_c) (Nat.le_of_ble_eq_true rfl) (rfl) rfl (fun h7 e_h7 => ?_)
  have F_h7_c : h7 c = .inr (1, [.ref ba, .ref wi, .int gr, .ref (c + 1), .ref (c + 2), .ref (c + 5), .int 0, .int 0, .int ad, .ref (c + 6), .ref (c + 13), .ref (c + 20), .ref cho, .ref (c + 3), .int mo, .int bi, .int ob, .int sta]) := by rw [e_h7]; exact va_up_eq
  have F_h7__c_5_ : h7 (c + 5) = .inl (1, N, .inl a5) := by rw [e_h7, va_up_neq (nek0 (a := 5) (by decide))]; exact F_h2__c_5_
  have FR_h7 : Fr h h7 (fun j => j = c ∨ j = c + 5) := FR_h2.zup e_h7 (by first | exact rfl | exact Or.inl rfl | exact Or.inr rfl | exact ⟨by decide, by decide⟩ | decide | omega)
  clear F_h2_c F_h2__c_5_ FR_h2 e_h7
  refine WX.s1 rfl rfl ?_
  refine WX.s1 rfl rfl ?_
  refine WX.put1 (fs := [.ref ba, .ref wi, .int gr, .ref (c + 1), .ref (c + 2), .ref (c + 5), .int 0, .int 0, .int ad, .ref (c + 6), .ref (c + 13), .ref (c + 20), .ref cho, .ref (c + 3), .int mo, .int bi, .int ob, .int sta]) (fs' := [.ref ba, .ref wi, .int gr, .ref (c + 1), .ref (c + 2), .ref (c + 5), .int 0, .int 0, .int 0, .ref (c + 6), .ref (c + 13), .ref (c + 20), .ref cho, .ref (c + 3), .int mo, .int bi, .int ob, .int sta]) rfl (by omega) (F_h7_c) (Nat.le_of_ble_eq_true rfl) (rfl) rfl (fun h12 e_h12 => ?_)
  have F_h12_c : h12 c = .inr (1, [.ref ba, .ref wi, .int gr, .ref (c + 1), .ref (c + 2), .ref (c + 5), .int 0, .int 0, .int 0, .ref (c + 6), .ref (c + 13), .ref (c + 20), .ref cho, .ref (c + 3), .int mo, .int bi, .int ob, .int sta]) := by rw [e_h12]; exact va_up_eq
  have F_h12__c_5_ : h12 (c + 5) = .inl (1, N, .inl a5) := by rw [e_h12, va_up_neq (nek0 (a := 5) (by decide))]; exact F_h7__c_5_
  have FR_h12 : Fr h h12 (fun j => j = c ∨ j = c + 5) := FR_h7.zup e_h12 (by first | exact rfl | exact Or.inl rfl | exact Or.inr rfl | exact ⟨by decide, by decide⟩ | decide | omega)
  clear F_h7_c F_h7__c_5_ FR_h7 e_h12
  refine WX.s1 rfl rfl ?_
  refine WX.get1 (fs := [.ref ba, .ref wi, .int gr, .ref (c + 1), .ref (c + 2), .ref (c + 5), .int 0, .int 0, .int 0, .ref (c + 6), .ref (c + 13), .ref (c + 20), .ref cho, .ref (c + 3), .int mo, .int bi, .int ob, .int sta]) rfl (by omega) (F_h12_c) rfl ?_
  refine WX.s1 rfl rfl ?_
  refine WX.callC (vs := [.ref (c + 5), .int 0]) rfl rfl rfl (Nat.le_of_ble_eq_true rfl) rfl ?_
  refine w_fill (by omega) F_h12__c_5_ hN (fun h20 g20 fr F_h20__c_5_ hg20 => ?_)
  have F_h20_c : h20 c = .inr (1, [.ref ba, .ref wi, .int gr, .ref (c + 1), .ref (c + 2), .ref (c + 5), .int 0, .int 0, .int 0, .ref (c + 6), .ref (c + 13), .ref (c + 20), .ref cho, .ref (c + 3), .int mo, .int bi, .int ob, .int sta]) := (fr _ (by omega)).trans F_h12_c
  have FR_h20 : Fr h h20 (fun j => j = c ∨ j = c + 5) := FR_h12.zsub fr (fun j hj => by omega)
  show WX _ _ _ 23 [(0, .ref c)] [] (n, s, h20)
  exact WX.ret0 rfl (kk h20 FR_h20 F_h20_c ⟨_, F_h20__c_5_, hg20⟩)
set_option maxRecDepth 20000 in
theorem x_go0 {d n s : Nat} {h : Nat → aE} {fw fl fwi fe fle fdi fap fal fad : Int32}{lu lki lb lsh lbe : Int32} {cnt : Int32} {la lbn a91 k0 k1 k2 : Nat → Int32} (hn : 190 ≤ n)  (F_h_81 : h 81 = .inr (6, [.ref 82, .ref 89, .ref 108, .ref 135, .ref 162, .ref 86, .ref 87, .int cnt, .ref 88])) (F_h_82 : h 82 = .inr (3, [.ref 83, .int 0, .ref 84, .ref 85, .int fw, .int fl, .int fwi, .int fe, .int fle, .int fdi, .int fap, .int fal, .int fad])) (F_h_86 : h 86 = .inl (1, 3, .inl la)) (F_h_87 : h 87 = .inl (1, 3, .inl lbn)) (F_h_89 : h 89 = .inr (5, [.ref 90, .ref 91, .int lu, .ref 92, .ref 96, .ref 100, .ref 67, .ref 106, .int lki, .int lb, .int lsh, .int lbe])) (F_h_91 : h 91 = .inl (1, 256, .inl a91)) (F_h_108 : h 108 = .inr (1, [.ref (aBig + 3), .ref (aBig + 4), .int 9, .ref 109, .ref 110, .ref 113, .int 0, .int 0, .int 0, .ref 114, .ref 121, .ref 128, .ref 114, .ref 111, .int 0, .int 0, .int 0, .int 0])) (F_h_113 : h 113 = .inl (1, 36, .inl k0)) (F_h_135 : h 135 = .inr (1, [.ref (aBig + 5), .ref (aBig + 6), .int 8, .ref 136, .ref 137, .ref 140, .int 0, .int 0, .int 0, .ref 141, .ref 148, .ref 155, .ref 141, .ref 138, .int 0, .int 0, .int 0, .int 0])) (F_h_140 : h 140 = .inl (1, 32, .inl k1)) (F_h_162 : h 162 = .inr (1, [.ref (aBig + 7), .ref (aBig + 8), .int 9, .ref 163, .ref 164, .ref 167, .int 0, .int 0, .int 0, .ref 168, .ref 175, .ref 182, .ref 168, .ref 165, .int 0, .int 0, .int 0, .int 0])) (F_h_167 : h 167 = .inl (1, 53, .inl k2))  {Ψ : Option Value → aH → Prop} (kk : ∀ h', Fr h h' (fun j => j = 81 ∨ j = 82 ∨ j = 87 ∨ j = 89 ∨ j = 91 ∨ j = 108 ∨ j = 113 ∨ j = 135 ∨ j = 140 ∨ j = 162 ∨ j = 167) → h' 81 = .inr (6, [.ref 82, .ref 89, .ref 108, .ref 135, .ref 162, .ref 86, .ref 87, .int 0, .ref 88]) → h' 82 = .inr (3, [.ref 83, .int 0, .ref 84, .ref 85, .int fw, .int fl, .int fwi, .int 0, .int fle, .int fdi, .int (-1), .int fal, .int fad]) → h' 89 = .inr (5, [.ref 90, .ref 91, .int 0, .ref 92, .ref 96, .ref 100, .ref 67, .ref 106, .int lki, .int lb, .int lsh, .int lbe]) → (∃ g, h' 91 = .inl (1, 256, .inl g)) → h' 108 = .inr (1, [.ref (aBig + 3), .ref (aBig + 4), .int 9, .ref 109, .ref 110, .ref 113, .int 0, .int 0, .int 0, .ref 114, .ref 121, .ref 128, .ref 114, .ref 111, .int 0, .int 0, .int 0, .int 0]) → h' 135 = .inr (1, [.ref (aBig + 5), .ref (aBig + 6), .int 8, .ref 136, .ref 137, .ref 140, .int 0, .int 0, .int 0, .ref 141, .ref 148, .ref 155, .ref 141, .ref 138, .int 0, .int 0, .int 0, .int 0]) → h' 162 = .inr (1, [.ref (aBig + 7), .ref (aBig + 8), .int 9, .ref 163, .ref 164, .ref 167, .int 0, .int 0, .int 0, .ref 168, .ref 175, .ref 182, .ref 168, .ref 165, .int 0, .int 0, .int 0, .int 0]) → Ψ none (n, s, h')) : WO (mM (d + 3)) 71 [.ref 81, .int 0, .int 0] (n, s, h) Ψ := by
  refine WO.of (Nat.le_of_ble_eq_true rfl) ?_
  have FR_h : Fr h h (fun j => j = 81 ∨ j = 82 ∨ j = 87 ∨ j = 89 ∨ j = 91 ∨ j = 108 ∨ j = 113 ∨ j = 135 ∨ j = 140 ∨ j = 162 ∨ j = 167) := Fr.rf
  show WX (lk tX6_go) (mM (d + 2)) Ψ 0 [(0, .ref 81), (1, .int 0), (2, .int 0)] [] (n, s, h)
  refine WX.s1 rfl rfl ?_
  refine WX.get1 (fs := [.ref 82, .ref 89, .ref 108, .ref 135, .ref 162, .ref 86, .ref 87, .int cnt, .ref 88]) rfl (ltN hn (by decide)) (F_h_81) rfl ?_
  refine WX.callC (vs := [.ref 89]) rfl rfl rfl (Nat.le_of_ble_eq_true rfl) (rcv_ok (ltN hn (by decide)) F_h_89) ?_
  refine x_ldrop hn F_h_89 F_h_91 (fun h4 fr F_h4_89 ⟨g4, F_h4_91, _⟩ => ?_)
  have F_h4_81 : h4 81 = .inr (6, [.ref 82, .ref 89, .ref 108, .ref 135, .ref 162, .ref 86, .ref 87, .int cnt, .ref 88]) := (fr _ (by first | decide | omega)).trans F_h_81
  have F_h4_82 : h4 82 = .inr (3, [.ref 83, .int 0, .ref 84, .ref 85, .int fw, .int fl, .int fwi, .int fe, .int fle, .int fdi, .int fap, .int fal, .int fad]) := (fr _ (by first | decide | omega)).trans F_h_82
  have F_h4_86 : h4 86 = .inl (1, 3, .inl la) := (fr _ (by first | decide | omega)).trans F_h_86
  have F_h4_87 : h4 87 = .inl (1, 3, .inl lbn) := (fr _ (by first | decide | omega)).trans F_h_87
  have F_h4_108 : h4 108 = .inr (1, [.ref (aBig + 3), .ref (aBig + 4), .int 9, .ref 109, .ref 110, .ref 113, .int 0, .int 0, .int 0, .ref 114, .ref 121, .ref 128, .ref 114, .ref 111, .int 0, .int 0, .int 0, .int 0]) := (fr _ (by first | decide | omega)).trans F_h_108
  have F_h4_113 : h4 113 = .inl (1, 36, .inl k0) := (fr _ (by first | decide | omega)).trans F_h_113
  have F_h4_135 : h4 135 = .inr (1, [.ref (aBig + 5), .ref (aBig + 6), .int 8, .ref 136, .ref 137, .ref 140, .int 0, .int 0, .int 0, .ref 141, .ref 148, .ref 155, .ref 141, .ref 138, .int 0, .int 0, .int 0, .int 0]) := (fr _ (by first | decide | omega)).trans F_h_135
  have F_h4_140 : h4 140 = .inl (1, 32, .inl k1) := (fr _ (by first | decide | omega)).trans F_h_140
  have F_h4_162 : h4 162 = .inr (1, [.ref (aBig + 7), .ref (aBig + 8), .int 9, .ref 163, .ref 164, .ref 167, .int 0, .int 0, .int 0, .ref 168, .ref 175, .ref 182, .ref 168, .ref 165, .int 0, .int 0, .int 0, .int 0]) := (fr _ (by first | decide | omega)).trans F_h_162
  have F_h4_167 : h4 167 = .inl (1, 53, .inl k2) := (fr _ (by first | decide | omega)).trans F_h_167
  have FR_h4 : Fr h h4 (fun j => j = 81 ∨ j = 82 ∨ j = 87 ∨ j = 89 ∨ j = 91 ∨ j = 108 ∨ j = 113 ∨ j = 135 ∨ j = 140 ∨ j = 162 ∨ j = 167) := FR_h.zsub fr (fun j hj => by omega)
  show WX _ _ _ 7 [(0, .ref 81), (1, .int 0), (2, .int 0)] [] (n, s, h4)
  refine WX.s1 rfl rfl ?_
  refine WX.get1 (fs := [.ref 82, .ref 89, .ref 108, .ref 135, .ref 162, .ref 86, .ref 87, .int cnt, .ref 88]) rfl (ltN hn (by decide)) (F_h4_81) rfl ?_
  refine WX.callC (vs := [.ref 108]) rfl rfl rfl (Nat.le_of_ble_eq_true rfl) (rcv_ok (ltN hn (by decide)) F_h4_108) ?_
  refine x_kdrop (ltN hn (by decide)) (by decide) F_h4_108 F_h4_113 (fun h11 fr F_h11_108 ⟨g11, F_h11_113, _⟩ => ?_)
  have F_h11_81 : h11 81 = .inr (6, [.ref 82, .ref 89, .ref 108, .ref 135, .ref 162, .ref 86, .ref 87, .int cnt, .ref 88]) := (fr _ (by first | decide | omega)).trans F_h4_81
  have F_h11_82 : h11 82 = .inr (3, [.ref 83, .int 0, .ref 84, .ref 85, .int fw, .int fl, .int fwi, .int fe, .int fle, .int fdi, .int fap, .int fal, .int fad]) := (fr _ (by first | decide | omega)).trans F_h4_82
  have F_h11_86 : h11 86 = .inl (1, 3, .inl la) := (fr _ (by first | decide | omega)).trans F_h4_86
  have F_h11_87 : h11 87 = .inl (1, 3, .inl lbn) := (fr _ (by first | decide | omega)).trans F_h4_87
  have F_h11_89 : h11 89 = .inr (5, [.ref 90, .ref 91, .int 0, .ref 92, .ref 96, .ref 100, .ref 67, .ref 106, .int lki, .int lb, .int lsh, .int lbe]) := (fr _ (by first | decide | omega)).trans F_h4_89
  have F_h11_91 : h11 91 = .inl (1, 256, .inl g4) := (fr _ (by first | decide | omega)).trans F_h4_91
  have F_h11_135 : h11 135 = .inr (1, [.ref (aBig + 5), .ref (aBig + 6), .int 8, .ref 136, .ref 137, .ref 140, .int 0, .int 0, .int 0, .ref 141, .ref 148, .ref 155, .ref 141, .ref 138, .int 0, .int 0, .int 0, .int 0]) := (fr _ (by first | decide | omega)).trans F_h4_135
  have F_h11_140 : h11 140 = .inl (1, 32, .inl k1) := (fr _ (by first | decide | omega)).trans F_h4_140
  have F_h11_162 : h11 162 = .inr (1, [.ref (aBig + 7), .ref (aBig + 8), .int 9, .ref 163, .ref 164, .ref 167, .int 0, .int 0, .int 0, .ref 168, .ref 175, .ref 182, .ref 168, .ref 165, .int 0, .int 0, .int 0, .int 0]) := (fr _ (by first | decide | omega)).trans F_h4_162
  have F_h11_167 : h11 167 = .inl (1, 53, .inl k2) := (fr _ (by first | decide | omega)).trans F_h4_167
  have FR_h11 : Fr h h11 (fun j => j = 81 ∨ j = 82 ∨ j = 87 ∨ j = 89 ∨ j = 91 ∨ j = 108 ∨ j = 113 ∨ j = 135 ∨ j = 140 ∨ j = 162 ∨ j = 167) := FR_h4.zsub fr (fun j hj => by omega)
  show WX _ _ _ 14 [(0, .ref 81), (1, .int 0), (2, .int 0)] [] (n, s, h11)
  refine WX.s1 rfl rfl ?_
  refine WX.get1 (fs := [.ref 82, .ref 89, .ref 108, .ref 135, .ref 162, .ref 86, .ref 87, .int cnt, .ref 88]) rfl (ltN hn (by decide)) (F_h11_81) rfl ?_
  refine WX.callC (vs := [.ref 135]) rfl rfl rfl (Nat.le_of_ble_eq_true rfl) (rcv_ok (ltN hn (by decide)) F_h11_135) ?_
  refine x_kdrop (ltN hn (by decide)) (by decide) F_h11_135 F_h11_140 (fun h18 fr F_h18_135 ⟨g18, F_h18_140, _⟩ => ?_)
  have F_h18_81 : h18 81 = .inr (6, [.ref 82, .ref 89, .ref 108, .ref 135, .ref 162, .ref 86, .ref 87, .int cnt, .ref 88]) := (fr _ (by first | decide | omega)).trans F_h11_81
  have F_h18_82 : h18 82 = .inr (3, [.ref 83, .int 0, .ref 84, .ref 85, .int fw, .int fl, .int fwi, .int fe, .int fle, .int fdi, .int fap, .int fal, .int fad]) := (fr _ (by first | decide | omega)).trans F_h11_82
  have F_h18_86 : h18 86 = .inl (1, 3, .inl la) := (fr _ (by first | decide | omega)).trans F_h11_86
  have F_h18_87 : h18 87 = .inl (1, 3, .inl lbn) := (fr _ (by first | decide | omega)).trans F_h11_87
  have F_h18_89 : h18 89 = .inr (5, [.ref 90, .ref 91, .int 0, .ref 92, .ref 96, .ref 100, .ref 67, .ref 106, .int lki, .int lb, .int lsh, .int lbe]) := (fr _ (by first | decide | omega)).trans F_h11_89
  have F_h18_91 : h18 91 = .inl (1, 256, .inl g4) := (fr _ (by first | decide | omega)).trans F_h11_91
  have F_h18_108 : h18 108 = .inr (1, [.ref (aBig + 3), .ref (aBig + 4), .int 9, .ref 109, .ref 110, .ref 113, .int 0, .int 0, .int 0, .ref 114, .ref 121, .ref 128, .ref 114, .ref 111, .int 0, .int 0, .int 0, .int 0]) := (fr _ (by first | decide | omega)).trans F_h11_108
  have F_h18_113 : h18 113 = .inl (1, 36, .inl g11) := (fr _ (by first | decide | omega)).trans F_h11_113
  have F_h18_162 : h18 162 = .inr (1, [.ref (aBig + 7), .ref (aBig + 8), .int 9, .ref 163, .ref 164, .ref 167, .int 0, .int 0, .int 0, .ref 168, .ref 175, .ref 182, .ref 168, .ref 165, .int 0, .int 0, .int 0, .int 0]) := (fr _ (by first | decide | omega)).trans F_h11_162
  have F_h18_167 : h18 167 = .inl (1, 53, .inl k2) := (fr _ (by first | decide | omega)).trans F_h11_167
  have FR_h18 : Fr h h18 (fun j => j = 81 ∨ j = 82 ∨ j = 87 ∨ j = 89 ∨ j = 91 ∨ j = 108 ∨ j = 113 ∨ j = 135 ∨ j = 140 ∨ j = 162 ∨ j = 167) := FR_h11.zsub fr (fun j hj => by omega)
  show WX _ _ _ 21 [(0, .ref 81), (1, .int 0), (2, .int 0)] [] (n, s, h18)
  refine WX.s1 rfl rfl ?_
  refine WX.get1 (fs := [.ref 82, .ref 89, .ref 108, .ref 135, .ref 162, .ref 86, .ref 87, .int cnt, .ref 88]) rfl (ltN hn (by decide)) (F_h18_81) rfl ?_
  refine WX.callC (vs := [.ref 162]) rfl rfl rfl (Nat.le_of_ble_eq_true rfl) (rcv_ok (ltN hn (by decide)) F_h18_162) ?_
  refine x_kdrop (ltN hn (by decide)) (by decide) F_h18_162 F_h18_167 (fun h25 fr F_h25_162 ⟨g25, F_h25_167, _⟩ => ?_)
  have F_h25_81 : h25 81 = .inr (6, [.ref 82, .ref 89, .ref 108, .ref 135, .ref 162, .ref 86, .ref 87, .int cnt, .ref 88]) := (fr _ (by first | decide | omega)).trans F_h18_81
  have F_h25_82 : h25 82 = .inr (3, [.ref 83, .int 0, .ref 84, .ref 85, .int fw, .int fl, .int fwi, .int fe, .int fle, .int fdi, .int fap, .int fal, .int fad]) := (fr _ (by first | decide | omega)).trans F_h18_82
  have F_h25_86 : h25 86 = .inl (1, 3, .inl la) := (fr _ (by first | decide | omega)).trans F_h18_86
  have F_h25_87 : h25 87 = .inl (1, 3, .inl lbn) := (fr _ (by first | decide | omega)).trans F_h18_87
  have F_h25_89 : h25 89 = .inr (5, [.ref 90, .ref 91, .int 0, .ref 92, .ref 96, .ref 100, .ref 67, .ref 106, .int lki, .int lb, .int lsh, .int lbe]) := (fr _ (by first | decide | omega)).trans F_h18_89
  have F_h25_91 : h25 91 = .inl (1, 256, .inl g4) := (fr _ (by first | decide | omega)).trans F_h18_91
  have F_h25_108 : h25 108 = .inr (1, [.ref (aBig + 3), .ref (aBig + 4), .int 9, .ref 109, .ref 110, .ref 113, .int 0, .int 0, .int 0, .ref 114, .ref 121, .ref 128, .ref 114, .ref 111, .int 0, .int 0, .int 0, .int 0]) := (fr _ (by first | decide | omega)).trans F_h18_108
  have F_h25_113 : h25 113 = .inl (1, 36, .inl g11) := (fr _ (by first | decide | omega)).trans F_h18_113
  have F_h25_135 : h25 135 = .inr (1, [.ref (aBig + 5), .ref (aBig + 6), .int 8, .ref 136, .ref 137, .ref 140, .int 0, .int 0, .int 0, .ref 141, .ref 148, .ref 155, .ref 141, .ref 138, .int 0, .int 0, .int 0, .int 0]) := (fr _ (by first | decide | omega)).trans F_h18_135
  have F_h25_140 : h25 140 = .inl (1, 32, .inl g18) := (fr _ (by first | decide | omega)).trans F_h18_140
  have FR_h25 : Fr h h25 (fun j => j = 81 ∨ j = 82 ∨ j = 87 ∨ j = 89 ∨ j = 91 ∨ j = 108 ∨ j = 113 ∨ j = 135 ∨ j = 140 ∨ j = 162 ∨ j = 167) := FR_h18.zsub fr (fun j hj => by omega)
  show WX _ _ _ 28 [(0, .ref 81), (1, .int 0), (2, .int 0)] [] (n, s, h25)
  refine WX.s1 rfl rfl ?_
  refine WX.s1 rfl rfl ?_
  refine WX.put1 (fs := [.ref 82, .ref 89, .ref 108, .ref 135, .ref 162, .ref 86, .ref 87, .int cnt, .ref 88]) (fs' := [.ref 82, .ref 89, .ref 108, .ref 135, .ref 162, .ref 86, .ref 87, .int 0, .ref 88]) rfl (ltN hn (by decide)) (F_h25_81) (Nat.le_of_ble_eq_true rfl) (rfl) rfl (fun h30 e_h30 => ?_)
  have F_h30_81 : h30 81 = .inr (6, [.ref 82, .ref 89, .ref 108, .ref 135, .ref 162, .ref 86, .ref 87, .int 0, .ref 88]) := by rw [e_h30]; exact va_up_eq
  have F_h30_82 : h30 82 = .inr (3, [.ref 83, .int 0, .ref 84, .ref 85, .int fw, .int fl, .int fwi, .int fe, .int fle, .int fdi, .int fap, .int fal, .int fad]) := by rw [e_h30, va_up_neq (by decide)]; exact F_h25_82
  have F_h30_86 : h30 86 = .inl (1, 3, .inl la) := by rw [e_h30, va_up_neq (by decide)]; exact F_h25_86
  have F_h30_87 : h30 87 = .inl (1, 3, .inl lbn) := by rw [e_h30, va_up_neq (by decide)]; exact F_h25_87
  have F_h30_89 : h30 89 = .inr (5, [.ref 90, .ref 91, .int 0, .ref 92, .ref 96, .ref 100, .ref 67, .ref 106, .int lki, .int lb, .int lsh, .int lbe]) := by rw [e_h30, va_up_neq (by decide)]; exact F_h25_89
  have F_h30_91 : h30 91 = .inl (1, 256, .inl g4) := by rw [e_h30, va_up_neq (by decide)]; exact F_h25_91
  have F_h30_108 : h30 108 = .inr (1, [.ref (aBig + 3), .ref (aBig + 4), .int 9, .ref 109, .ref 110, .ref 113, .int 0, .int 0, .int 0, .ref 114, .ref 121, .ref 128, .ref 114, .ref 111, .int 0, .int 0, .int 0, .int 0]) := by rw [e_h30, va_up_neq (by decide)]; exact F_h25_108
  have F_h30_113 : h30 113 = .inl (1, 36, .inl g11) := by rw [e_h30, va_up_neq (by decide)]; exact F_h25_113
  have F_h30_135 : h30 135 = .inr (1, [.ref (aBig + 5), .ref (aBig + 6), .int 8, .ref 136, .ref 137, .ref 140, .int 0, .int 0, .int 0, .ref 141, .ref 148, .ref 155, .ref 141, .ref 138, .int 0, .int 0, .int 0, .int 0]) := by rw [e_h30, va_up_neq (by decide)]; exact F_h25_135
  have F_h30_140 : h30 140 = .inl (1, 32, .inl g18) := by rw [e_h30, va_up_neq (by decide)]; exact F_h25_140
  have F_h30_162 : h30 162 = .inr (1, [.ref (aBig + 7), .ref (aBig + 8), .int 9, .ref 163, .ref 164, .ref 167, .int 0, .int 0, .int 0, .ref 168, .ref 175, .ref 182, .ref 168, .ref 165, .int 0, .int 0, .int 0, .int 0]) := by rw [e_h30, va_up_neq (by decide)]; exact F_h25_162
  have F_h30_167 : h30 167 = .inl (1, 53, .inl g25) := by rw [e_h30, va_up_neq (by decide)]; exact F_h25_167
  have FR_h30 : Fr h h30 (fun j => j = 81 ∨ j = 82 ∨ j = 87 ∨ j = 89 ∨ j = 91 ∨ j = 108 ∨ j = 113 ∨ j = 135 ∨ j = 140 ∨ j = 162 ∨ j = 167) := FR_h25.zup e_h30 (by first | exact rfl | exact Or.inl rfl | exact Or.inr rfl | exact ⟨by decide, by decide⟩ | decide | omega)
  clear F_h25_81 F_h25_82 F_h25_86 F_h25_87 F_h25_89 F_h25_91 F_h25_108 F_h25_113 F_h25_135 F_h25_140 F_h25_162 F_h25_167 FR_h25 e_h30
  refine WX.s1 rfl rfl ?_
  refine WX.get1 (fs := [.ref 82, .ref 89, .ref 108, .ref 135, .ref 162, .ref 86, .ref 87, .int 0, .ref 88]) rfl (ltN hn (by decide)) (F_h30_81) rfl ?_
  refine WX.s1 rfl rfl ?_
  refine WX.s1 rfl rfl ?_
  refine WX.get1 (fs := [.ref 82, .ref 89, .ref 108, .ref 135, .ref 162, .ref 86, .ref 87, .int 0, .ref 88]) rfl (ltN hn (by decide)) (F_h30_81) rfl ?_
  refine WX.s1 rfl rfl ?_
  refine WX.s1 rfl rfl ?_
  refine WX.get1 (fs := [.ref 82, .ref 89, .ref 108, .ref 135, .ref 162, .ref 86, .ref 87, .int 0, .ref 88]) rfl (ltN hn (by decide)) (F_h30_81) rfl ?_
  refine WX.len1 rfl (Or.inl ⟨ltN hn (by decide), by decide⟩) (F_h30_87) ?_
  refine WX.copyN rfl (Nat.le_of_ble_eq_true rfl) (Or.inl (ltN hn (by decide))) (F_h30_86) (ltN hn (by decide)) (F_h30_87) (p := 0) (q := 0) (c := 3) rfl rfl rfl (by decide) (by decide) (by decide) (by decide) (fun g48 h48 e_g48 e_h48 => ?_)
  have F_h48_81 : h48 81 = .inr (6, [.ref 82, .ref 89, .ref 108, .ref 135, .ref 162, .ref 86, .ref 87, .int 0, .ref 88]) := by rw [e_h48, va_up_neq (by decide)]; exact F_h30_81
  have F_h48_82 : h48 82 = .inr (3, [.ref 83, .int 0, .ref 84, .ref 85, .int fw, .int fl, .int fwi, .int fe, .int fle, .int fdi, .int fap, .int fal, .int fad]) := by rw [e_h48, va_up_neq (by decide)]; exact F_h30_82
  have F_h48_86 : h48 86 = .inl (1, 3, .inl la) := by rw [e_h48, va_up_neq (by decide)]; exact F_h30_86
  have F_h48_87 : h48 87 = .inl (1, 3, .inl g48) := by rw [e_h48]; exact va_up_eq
  have F_h48_89 : h48 89 = .inr (5, [.ref 90, .ref 91, .int 0, .ref 92, .ref 96, .ref 100, .ref 67, .ref 106, .int lki, .int lb, .int lsh, .int lbe]) := by rw [e_h48, va_up_neq (by decide)]; exact F_h30_89
  have F_h48_91 : h48 91 = .inl (1, 256, .inl g4) := by rw [e_h48, va_up_neq (by decide)]; exact F_h30_91
  have F_h48_108 : h48 108 = .inr (1, [.ref (aBig + 3), .ref (aBig + 4), .int 9, .ref 109, .ref 110, .ref 113, .int 0, .int 0, .int 0, .ref 114, .ref 121, .ref 128, .ref 114, .ref 111, .int 0, .int 0, .int 0, .int 0]) := by rw [e_h48, va_up_neq (by decide)]; exact F_h30_108
  have F_h48_113 : h48 113 = .inl (1, 36, .inl g11) := by rw [e_h48, va_up_neq (by decide)]; exact F_h30_113
  have F_h48_135 : h48 135 = .inr (1, [.ref (aBig + 5), .ref (aBig + 6), .int 8, .ref 136, .ref 137, .ref 140, .int 0, .int 0, .int 0, .ref 141, .ref 148, .ref 155, .ref 141, .ref 138, .int 0, .int 0, .int 0, .int 0]) := by rw [e_h48, va_up_neq (by decide)]; exact F_h30_135
  have F_h48_140 : h48 140 = .inl (1, 32, .inl g18) := by rw [e_h48, va_up_neq (by decide)]; exact F_h30_140
  have F_h48_162 : h48 162 = .inr (1, [.ref (aBig + 7), .ref (aBig + 8), .int 9, .ref 163, .ref 164, .ref 167, .int 0, .int 0, .int 0, .ref 168, .ref 175, .ref 182, .ref 168, .ref 165, .int 0, .int 0, .int 0, .int 0]) := by rw [e_h48, va_up_neq (by decide)]; exact F_h30_162
  have F_h48_167 : h48 167 = .inl (1, 53, .inl g25) := by rw [e_h48, va_up_neq (by decide)]; exact F_h30_167
  have FR_h48 : Fr h h48 (fun j => j = 81 ∨ j = 82 ∨ j = 87 ∨ j = 89 ∨ j = 91 ∨ j = 108 ∨ j = 113 ∨ j = 135 ∨ j = 140 ∨ j = 162 ∨ j = 167) := FR_h30.zup e_h48 (by first | exact rfl | exact Or.inl rfl | exact Or.inr rfl | exact ⟨by decide, by decide⟩ | decide | omega)
  clear F_h30_81 F_h30_82 F_h30_86 F_h30_87 F_h30_89 F_h30_91 F_h30_108 F_h30_113 F_h30_135 F_h30_140 F_h30_162 F_h30_167 FR_h30 e_h48
  refine WX.s1 rfl rfl ?_
  refine WX.get1 (fs := [.ref 82, .ref 89, .ref 108, .ref 135, .ref 162, .ref 86, .ref 87, .int 0, .ref 88]) rfl (ltN hn (by decide)) (F_h48_81) rfl ?_
  refine WX.s1 rfl rfl ?_
  refine WX.callC (vs := [.ref 82, .int 0]) rfl rfl rfl (Nat.le_of_ble_eq_true rfl) (rcv_ok (ltN hn (by decide)) F_h48_82) ?_
  refine x_endAt (ne := 0) hn rfl F_h48_82 (fun h56 fr F_h56_82 => ?_)
  have F_h56_81 : h56 81 = .inr (6, [.ref 82, .ref 89, .ref 108, .ref 135, .ref 162, .ref 86, .ref 87, .int 0, .ref 88]) := (fr _ (by first | decide | omega)).trans F_h48_81
  have F_h56_86 : h56 86 = .inl (1, 3, .inl la) := (fr _ (by first | decide | omega)).trans F_h48_86
  have F_h56_87 : h56 87 = .inl (1, 3, .inl g48) := (fr _ (by first | decide | omega)).trans F_h48_87
  have F_h56_89 : h56 89 = .inr (5, [.ref 90, .ref 91, .int 0, .ref 92, .ref 96, .ref 100, .ref 67, .ref 106, .int lki, .int lb, .int lsh, .int lbe]) := (fr _ (by first | decide | omega)).trans F_h48_89
  have F_h56_91 : h56 91 = .inl (1, 256, .inl g4) := (fr _ (by first | decide | omega)).trans F_h48_91
  have F_h56_108 : h56 108 = .inr (1, [.ref (aBig + 3), .ref (aBig + 4), .int 9, .ref 109, .ref 110, .ref 113, .int 0, .int 0, .int 0, .ref 114, .ref 121, .ref 128, .ref 114, .ref 111, .int 0, .int 0, .int 0, .int 0]) := (fr _ (by first | decide | omega)).trans F_h48_108
  have F_h56_113 : h56 113 = .inl (1, 36, .inl g11) := (fr _ (by first | decide | omega)).trans F_h48_113
  have F_h56_135 : h56 135 = .inr (1, [.ref (aBig + 5), .ref (aBig + 6), .int 8, .ref 136, .ref 137, .ref 140, .int 0, .int 0, .int 0, .ref 141, .ref 148, .ref 155, .ref 141, .ref 138, .int 0, .int 0, .int 0, .int 0]) := (fr _ (by first | decide | omega)).trans F_h48_135
  have F_h56_140 : h56 140 = .inl (1, 32, .inl g18) := (fr _ (by first | decide | omega)).trans F_h48_140
  have F_h56_162 : h56 162 = .inr (1, [.ref (aBig + 7), .ref (aBig + 8), .int 9, .ref 163, .ref 164, .ref 167, .int 0, .int 0, .int 0, .ref 168, .ref 175, .ref 182, .ref 168, .ref 165, .int 0, .int 0, .int 0, .int 0]) := (fr _ (by first | decide | omega)).trans F_h48_162
  have F_h56_167 : h56 167 = .inl (1, 53, .inl g25) := (fr _ (by first | decide | omega)).trans F_h48_167
  have FR_h56 : Fr h h56 (fun j => j = 81 ∨ j = 82 ∨ j = 87 ∨ j = 89 ∨ j = 91 ∨ j = 108 ∨ j = 113 ∨ j = 135 ∨ j = 140 ∨ j = 162 ∨ j = 167) := FR_h48.zsub fr (fun j hj => by omega)
  show WX _ _ _ 59 [(0, .ref 81), (1, .int 0), (2, .int 0)] [] (n, s, h56)
  refine WX.s1 rfl rfl ?_
  refine WX.s1 (L' := [(0, .ref 81), (1, .int 0), (2, .int 0), (3, .int 0)]) rfl rfl ?_
  refine WX.s1 rfl rfl ?_
  refine WX.s1 (L' := [(0, .ref 81), (1, .int 0), (2, .int 0), (3, .int 0), (4, .int 0)]) rfl rfl ?_
  refine WX.s1 rfl rfl ?_
  refine WX.s1 rfl rfl ?_
  refine WX.icmp rfl (fun c_67 => ?_) (fun c_67 => absurd (by decide) c_67)
  clear c_67
  exact WX.ret0 rfl (kk h56 FR_h56 F_h56_81 F_h56_82 F_h56_89 ⟨_, F_h56_91⟩ F_h56_108 F_h56_135 F_h56_162)
set_option maxRecDepth 20000 in
theorem x_few0 {d n s : Nat} {h : Nat → aE} {lki lb lsh lbe : Int32} (hn : 190 ≤ n)  (F_h_89 : h 89 = .inr (5, [.ref 90, .ref 91, .int 0, .ref 92, .ref 96, .ref 100, .ref 67, .ref 106, .int lki, .int lb, .int lsh, .int lbe]))  {Ψ : Option Value → aH → Prop} (kk : Ψ (some (.int 1)) (n, s, h)) : WO (mM (d + 1)) 55 [.ref 89] (n, s, h) Ψ := by
  refine WO.of (Nat.le_of_ble_eq_true rfl) ?_
  show WX (lk tX5_areFew) (mM d) Ψ 0 [(0, .ref 89)] [] (n, s, h)
  refine WX.s1 rfl rfl ?_
  refine WX.get1 (fs := [.ref 90, .ref 91, .int 0, .ref 92, .ref 96, .ref 100, .ref 67, .ref 106, .int lki, .int lb, .int lsh, .int lbe]) rfl (ltN hn (by decide)) (F_h_89) rfl ?_
  refine WX.s1 rfl rfl ?_
  refine WX.s1 rfl rfl ?_
  refine WX.s1 rfl rfl ?_
  refine WX.icmp rfl (fun c_8 => absurd c_8 (by decide)) (fun c_8 => ?_)
  clear c_8
  refine WX.s1 rfl rfl ?_
  refine WX.s1 rfl rfl ?_
  exact WX.ret3 rfl (Or.inr rfl) kk
set_option maxRecDepth 20000 in
theorem x_kcho0 {d n s : Nat} {h : Nat → aE} {c ba wi cho : Nat} {gr di ad mo bi ob sta : Int32}  (hc : c + 26 < n) (F_h_c : h c = .inr (1, [.ref ba, .ref wi, .int gr, .ref (c + 1), .ref (c + 2), .ref (c + 5), .int 0, .int di, .int ad, .ref (c + 6), .ref (c + 13), .ref (c + 20), .ref cho, .ref (c + 3), .int mo, .int bi, .int ob, .int sta]))  {Ψ : Option Value → aH → Prop} (kk : Ψ (some (.int 0)) (n, s, h)) : WO (mM (d + 1)) 12 [.ref c] (n, s, h) Ψ := by
  refine WO.of (Nat.le_of_ble_eq_true rfl) ?_
  show WX (lk tX1_choose) (mM d) Ψ 0 [(0, .ref c)] [] (n, s, h)
  refine WX.s1 rfl rfl ?_
  refine WX.get1 (fs := [.ref ba, .ref wi, .int gr, .ref (c + 1), .ref (c + 2), .ref (c + 5), .int 0, .int di, .int ad, .ref (c + 6), .ref (c + 13), .ref (c + 20), .ref cho, .ref (c + 3), .int mo, .int bi, .int ob, .int sta]) rfl (by omega) (F_h_c) rfl ?_
  refine WX.if_ rfl (fun c_4 => absurd c_4 (by decide)) (fun c_4 => ?_)
  clear c_4
  refine WX.s1 rfl rfl ?_
  exact WX.ret1 rfl kk
set_option maxRecDepth 20000 in
theorem x_plain0 {d n s : Nat} {h : Nat → aE} {lki lb lsh lbe : Int32} (hn : 190 ≤ n)  (F_h_89 : h 89 = .inr (5, [.ref 90, .ref 91, .int 0, .ref 92, .ref 96, .ref 100, .ref 67, .ref 106, .int lki, .int lb, .int lsh, .int lbe]))  {Ψ : Option Value → aH → Prop} (kk : Ψ (some (.int 1)) (n, s, h)) : WO (mM (d + 1)) 58 [.ref 89] (n, s, h) Ψ := by
  refine WO.of (Nat.le_of_ble_eq_true rfl) ?_
  show WX (lk tX5_plainHead) (mM d) Ψ 0 [(0, .ref 89)] [] (n, s, h)
  refine WX.s1 rfl rfl ?_
  refine WX.get1 (fs := [.ref 90, .ref 91, .int 0, .ref 92, .ref 96, .ref 100, .ref 67, .ref 106, .int lki, .int lb, .int lsh, .int lbe]) rfl (ltN hn (by decide)) (F_h_89) rfl ?_
  refine WX.s1 rfl rfl ?_
  refine WX.icmp rfl (fun c_6 => absurd c_6 (by decide)) (fun c_6 => ?_)
  clear c_6
  refine WX.s1 rfl rfl ?_
  exact WX.ret1 rfl kk
set_option maxRecDepth 20000 in
theorem x_can0 {d n s : Nat} {h : Nat → aE} {ta : Int32} {b : Nat} (hn : 190 ≤ n)  (F_h_92 : h 92 = .inr (0, [.ref 93, .ref 94, .ref 95, .int ta, .int 0]))  {Ψ : Option Value → aH → Prop} (kk : Ψ (some (.int 0)) (n, s, h)) : WO (mM (d + 1)) 4 [.ref 92, .ref b] (n, s, h) Ψ := by
  refine WO.of (Nat.le_of_ble_eq_true rfl) ?_
  show WX (lk tX0_canTell) (mM d) Ψ 0 [(0, .ref 92), (1, .ref b)] [] (n, s, h)
  refine WX.s1 rfl rfl ?_
  refine WX.get1 (fs := [.ref 93, .ref 94, .ref 95, .int ta, .int 0]) rfl (ltN hn (by decide)) (F_h_92) rfl ?_
  refine WX.if_ rfl (fun c_4 => absurd c_4 (by decide)) (fun c_4 => ?_)
  clear c_4
  refine WX.s1 rfl rfl ?_
  exact WX.ret3 rfl (Or.inl rfl) kk
set_option maxRecDepth 20000 in
theorem x_lcho0 {d n s : Nat} {h : Nat → aE} {lki lb lsh lbe : Int32} {ta : Int32} (hn : 190 ≤ n)  (F_h_89 : h 89 = .inr (5, [.ref 90, .ref 91, .int 0, .ref 92, .ref 96, .ref 100, .ref 67, .ref 106, .int lki, .int lb, .int lsh, .int lbe])) (F_h_92 : h 92 = .inr (0, [.ref 93, .ref 94, .ref 95, .int ta, .int 0]))  {Ψ : Option Value → aH → Prop} (kk : ∀ h', Fr h h' (fun j => j = 89) → h' 89 = .inr (5, [.ref 90, .ref 91, .int 0, .ref 92, .ref 96, .ref 100, .ref 67, .ref 106, .int 0, .int (1 + 0), .int lsh, .int lbe]) → Ψ (some (.int (1 + 0))) (n, s, h')) : WO (mM (d + 2)) 57 [.ref 89, .int 0] (n, s, h) Ψ := by
  refine WO.of (Nat.le_of_ble_eq_true rfl) ?_
  have FR_h : Fr h h (fun j => j = 89) := Fr.rf
  show WX (lk tX5_choose) (mM (d + 1)) Ψ 0 [(0, .ref 89), (1, .int 0)] [] (n, s, h)
  refine WX.s1 rfl rfl ?_
  refine WX.s1 rfl rfl ?_
  refine WX.put1 (fs := [.ref 90, .ref 91, .int 0, .ref 92, .ref 96, .ref 100, .ref 67, .ref 106, .int lki, .int lb, .int lsh, .int lbe]) (fs' := [.ref 90, .ref 91, .int 0, .ref 92, .ref 96, .ref 100, .ref 67, .ref 106, .int 0, .int lb, .int lsh, .int lbe]) rfl (ltN hn (by decide)) (F_h_89) (Nat.le_of_ble_eq_true rfl) (rfl) rfl (fun h2 e_h2 => ?_)
  have F_h2_89 : h2 89 = .inr (5, [.ref 90, .ref 91, .int 0, .ref 92, .ref 96, .ref 100, .ref 67, .ref 106, .int 0, .int lb, .int lsh, .int lbe]) := by rw [e_h2]; exact va_up_eq
  have F_h2_92 : h2 92 = .inr (0, [.ref 93, .ref 94, .ref 95, .int ta, .int 0]) := by rw [e_h2, va_up_neq (by decide)]; exact F_h_92
  have FR_h2 : Fr h h2 (fun j => j = 89) := FR_h.zup e_h2 (by first | exact rfl | exact Or.inl rfl | exact Or.inr rfl | exact ⟨by decide, by decide⟩ | decide | omega)
  clear F_h_89 F_h_92 FR_h e_h2
  refine WX.s1 rfl rfl ?_
  refine WX.s1 rfl rfl ?_
  refine WX.callC (vs := [.ref 89]) rfl rfl rfl (Nat.le_of_ble_eq_true rfl) (rcv_ok (ltN hn (by decide)) F_h2_89) ?_
  refine x_plain0 hn F_h2_89 ?_
  show WX _ _ _ 10 [(0, .ref 89), (1, .int 0)] [.int 1, .ref 89] (n, s, h2)
  refine WX.s1 rfl rfl ?_
  refine WX.get1 (fs := [.ref 90, .ref 91, .int 0, .ref 92, .ref 96, .ref 100, .ref 67, .ref 106, .int 0, .int lb, .int lsh, .int lbe]) rfl (ltN hn (by decide)) (F_h2_89) rfl ?_
  refine WX.s1 rfl rfl ?_
  refine WX.put1 (fs := [.ref 90, .ref 91, .int 0, .ref 92, .ref 96, .ref 100, .ref 67, .ref 106, .int 0, .int lb, .int lsh, .int lbe]) (fs' := [.ref 90, .ref 91, .int 0, .ref 92, .ref 96, .ref 100, .ref 67, .ref 106, .int 0, .int (1 + 0), .int lsh, .int lbe]) rfl (ltN hn (by decide)) (F_h2_89) (Nat.le_of_ble_eq_true rfl) (rfl) rfl (fun h15 e_h15 => ?_)
  have F_h15_89 : h15 89 = .inr (5, [.ref 90, .ref 91, .int 0, .ref 92, .ref 96, .ref 100, .ref 67, .ref 106, .int 0, .int (1 + 0), .int lsh, .int lbe]) := by rw [e_h15]; exact va_up_eq
  have F_h15_92 : h15 92 = .inr (0, [.ref 93, .ref 94, .ref 95, .int ta, .int 0]) := by rw [e_h15, va_up_neq (by decide)]; exact F_h2_92
  have FR_h15 : Fr h h15 (fun j => j = 89) := FR_h2.zup e_h15 (by first | exact rfl | exact Or.inl rfl | exact Or.inr rfl | exact ⟨by decide, by decide⟩ | decide | omega)
  clear F_h2_89 F_h2_92 FR_h2 e_h15
  refine WX.s1 rfl rfl ?_
  refine WX.get1 (fs := [.ref 90, .ref 91, .int 0, .ref 92, .ref 96, .ref 100, .ref 67, .ref 106, .int 0, .int (1 + 0), .int lsh, .int lbe]) rfl (ltN hn (by decide)) (F_h15_89) rfl ?_
  refine WX.if_ rfl (fun c_22 => ?_) (fun c_22 => absurd (by decide) c_22)
  clear c_22
  refine WX.s1 rfl rfl ?_
  refine WX.get1 (fs := [.ref 90, .ref 91, .int 0, .ref 92, .ref 96, .ref 100, .ref 67, .ref 106, .int 0, .int (1 + 0), .int lsh, .int lbe]) rfl (ltN hn (by decide)) (F_h15_89) rfl ?_
  refine WX.s1 rfl rfl ?_
  refine WX.get1 (fs := [.ref 90, .ref 91, .int 0, .ref 92, .ref 96, .ref 100, .ref 67, .ref 106, .int 0, .int (1 + 0), .int lsh, .int lbe]) rfl (ltN hn (by decide)) (F_h15_89) rfl ?_
  refine WX.callC (vs := [.ref 92, .ref 91]) rfl rfl rfl (Nat.le_of_ble_eq_true rfl) (rcv_ok (ltN hn (by decide)) F_h15_92) ?_
  refine x_can0 hn F_h15_92 ?_
  show WX _ _ _ 86 [(0, .ref 89), (1, .int 0)] [.int 0] (n, s, h15)
  refine WX.if_ rfl (fun c_86 => ?_) (fun c_86 => absurd (by decide) c_86)
  clear c_86
  refine WX.s1 rfl rfl ?_
  refine WX.if_ rfl (fun c_100 => ?_) (fun c_100 => absurd (by decide) c_100)
  clear c_100
  refine WX.s1 rfl rfl ?_
  refine WX.get1 (fs := [.ref 90, .ref 91, .int 0, .ref 92, .ref 96, .ref 100, .ref 67, .ref 106, .int 0, .int (1 + 0), .int lsh, .int lbe]) rfl (ltN hn (by decide)) (F_h15_89) rfl ?_
  exact WX.ret1 rfl (kk h15 FR_h15 F_h15_89)
set_option maxRecDepth 20000 in
theorem x_seqb0 {d n s : Nat} {h : Nat → aE} {x : Int32} (hn : 190 ≤ n)  (F_h_81 : h 81 = .inr (6, [.ref 82, .ref 89, .ref 108, .ref 135, .ref 162, .ref 86, .ref 87, .int 0, .ref 88]))  {Ψ : Option Value → aH → Prop} (kk : Ψ (some (.int 1)) (n, s, h)) : WO (mM (d + 1)) 76 [.ref 81, .int x] (n, s, h) Ψ := by
  refine WO.of (Nat.le_of_ble_eq_true rfl) ?_
  show WX (lk tX6_sequenceBytes) (mM d) Ψ 0 [(0, .ref 81), (1, .int x)] [] (n, s, h)
  refine WX.s1 rfl rfl ?_
  refine WX.get1 (fs := [.ref 82, .ref 89, .ref 108, .ref 135, .ref 162, .ref 86, .ref 87, .int 0, .ref 88]) rfl (ltN hn (by decide)) (F_h_81) rfl ?_
  refine WX.if_ rfl (fun c_4 => absurd c_4 (by decide)) (fun c_4 => ?_)
  clear c_4
  refine WX.s1 rfl rfl ?_
  refine WX.s1 rfl rfl ?_
  exact WX.ret1 rfl kk
