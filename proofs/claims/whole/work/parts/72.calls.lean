/-! write, again, turn: what they leave (both sides) -/
def InIs (I : Nat → Int32) (A : Nat → Nat → Int32) (l : List Nat) : Prop := I 1 = nI l.length ∧ ∀ i, i < l.length → A 1 i = nI (l.getD i 0)
def hiL (x : Int64) (q : Nat) : List Nat := (List.range q).map (fun i => leB x (7 - i))
theorem hiL_len (x : Int64) (q : Nat) : (hiL x q).length = q := by simp [hiL]
theorem hiL_succ (x : Int64) (q : Nat) : hiL x (q + 1) = hiL x q ++ [leB x (7 - q)] := by simp [hiL, List.range_succ]
theorem sh56 {i : Nat} (hi : i < 8) : (56 : Int32) - 8 * nI i = 8 * nI (7 - i) := by
  obtain rfl | rfl | rfl | rfl | rfl | rfl | rfl | rfl : i = 0 ∨ i = 1 ∨ i = 2 ∨ i = 3 ∨ i = 4 ∨ i = 5 ∨ i = 6 ∨ i = 7 := by omega
  all_goals decide
def wBad (u : Nat) (x : Int32) : Prop := x < 1 ∨ 8 < x ∨ 8000 < nI u + x
theorem bput_ok {N : Nat} {l : List Nat} {c : Nat} (h : l.length < N) : bput N (some l) c = some (l ++ [c]) := by
  show (if l.length < N then some (l ++ [c]) else none) = _
  rw [if_pos h]
set_option maxRecDepth 20000 in
theorem x_writeL {d n s : Nat} {h : Nat → aE} {ou ne sta dra : Nat} {id : Int64} {way least : Int32} {l : List Nat} {x : Int64} {nn : Int32} (hn : 190 ≤ n) (hl : l.length ≤ 8000) (F_h_0 : h 0 = .inr (10, [.ref 1, .ref ou, .ref ne, .ref 7, .long id, .ref sta, .ref dra, .ref 67, .ref 81, .ref 189, .int way, .int least])) (P_h_in : RowIs h 1 8000 (some l) 0 0) {Ψ : Option Value → aH → Prop} (k0 : wBad l.length nn → Ψ (some (.int 0)) (n, s, h)) (k1 : ∀ h' q, ¬ wBad l.length nn → nn = nI q → q ≤ 8 → Fr h h' (fun j => j = 1 ∨ j = 2) → RowIs h' 1 8000 (some (l ++ hiL x q)) 0 0 → Ψ (some (.int 1)) (n, s, h')) : WO (mM (d + 2)) 124 [.ref 0, .long x, .int nn] (n, s, h) Ψ := by
  refine WO.of (Nat.le_of_ble_eq_true rfl) ?_
  have FR_h : Fr h h (fun j => j = 1 ∨ j = 2) := Fr.rf
  obtain ⟨g, rA, -⟩ := P_h_in.at_
  have F_h_1 := rA.1
  show WX (lk tX11_write) (mM (d + 1)) Ψ 0 [(0, .ref 0), (1, .long x), (3, .int nn)] [] (n, s, h)
  refine WX.s1 rfl rfl ?_
  refine WX.s1 rfl rfl ?_
  refine WX.icmp rfl (fun c_2 => ?_) (fun c_2 => ?_)
  · skip
    refine WX.s1 rfl rfl ?_
    exact WX.ret3 rfl (Or.inl rfl) (k0 (by first | exact Or.inl c_2 | exact Or.inr (Or.inl c_8) | exact Or.inr (Or.inr (Int32.not_le.mp c_23))))
  · skip
    refine WX.s1 rfl rfl ?_
    refine WX.s1 rfl rfl ?_
    refine WX.icmp rfl (fun c_8 => ?_) (fun c_8 => ?_)
    · skip
      refine WX.s1 rfl rfl ?_
      exact WX.ret3 rfl (Or.inl rfl) (k0 (by first | exact Or.inl c_2 | exact Or.inr (Or.inl c_8) | exact Or.inr (Or.inr (Int32.not_le.mp c_23))))
    · skip
      refine WX.s1 rfl rfl ?_
      refine WX.get1 (fs := [.ref 1, .ref ou, .ref ne, .ref 7, .long id, .ref sta, .ref dra, .ref 67, .ref 81, .ref 189, .int way, .int least]) rfl (ltN hn (by decide)) (F_h_0) rfl ?_
      refine WX.get1 (fs := [.ref 2, .int (nI l.length), .int 0, .long 0, .int 0]) rfl (ltN hn (by decide)) (F_h_1) rfl ?_
      refine WX.s1 rfl rfl ?_
      refine WX.s1 (S' := [.int ((nI l.length) + nn)]) rfl rfl ?_
      refine WX.s1 rfl rfl ?_
      refine WX.icmp rfl (fun c_23 => ?_) (fun c_23 => ?_)
      · skip
        have hgood : ¬ wBad l.length nn := by
          rintro (q | q | q)
          · exact c_2 q
          · exact c_8 q
          · exact (Int32.not_lt.mpr c_23) q
        obtain ⟨q, hq1, hq8, rfl⟩ := nI_18 c_2 c_8
        have hle : l.length + q ≤ 8000 := (nI_leI (b := 8000) (by omega) (by decide)).mp (by rw [← nI_add]; exact c_23)
        refine WX.s1 rfl rfl ?_
        refine WX.s1 (L' := [(0, .ref 0), (1, .long x), (3, .int (nI q)), (4, .int 0)]) rfl rfl ?_
        have lp : ∀ (t i : Nat) (hL : Nat → aE), i + t = q → Fr h hL (fun j => j = 1 ∨ j = 2) → RowIs hL 1 8000 (some (l ++ hiL x i)) 0 0 → WX (lk tX11_write) (mM (d + 1)) Ψ 31 [(0, .ref 0), (1, .long x), (3, .int (nI q)), (4, .int (nI i))] [] (n, s, hL) := by
          have F0 := F_h_0
          clear F_h_0 F_h_1 P_h_in FR_h rA
          intro t
          induction t with
          | zero =>
            intro i hL ht FR_hL P_hL_in
            have F_hL_0 : hL 0 = .inr (10, [.ref 1, .ref ou, .ref ne, .ref 7, .long id, .ref sta, .ref dra, .ref 67, .ref 81, .ref 189, .int way, .int least]) := (FR_hL 0 (by decide)).trans F0
            refine WX.s1 rfl rfl ?_
            refine WX.s1 rfl rfl ?_
            refine WX.icmp rfl (fun c_34 => ?_) (fun c_34 => absurd (nI_le (by omega) (by omega)) c_34)
            refine WX.s1 rfl rfl ?_
            obtain rfl : i = q := by omega
            exact WX.ret3 rfl (Or.inr rfl) (k1 hL i hgood rfl hq8 FR_hL P_hL_in)
          | succ t ih =>
            intro i hL ht FR_hL P_hL_in
            have F_hL_0 : hL 0 = .inr (10, [.ref 1, .ref ou, .ref ne, .ref 7, .long id, .ref sta, .ref dra, .ref 67, .ref 81, .ref 189, .int way, .int least]) := (FR_hL 0 (by decide)).trans F0
            refine WX.s1 rfl rfl ?_
            refine WX.s1 rfl rfl ?_
            refine WX.icmp rfl (fun c_34 => absurd c_34 (nI_ge (by omega) (by omega))) (fun c_34 => ?_)
            refine WX.s1 rfl rfl ?_
            refine WX.get1 (fs := [.ref 1, .ref ou, .ref ne, .ref 7, .long id, .ref sta, .ref dra, .ref 67, .ref 81, .ref 189, .int way, .int least]) rfl (ltN hn (by decide)) (F_hL_0) rfl ?_
            refine WX.s1 rfl rfl ?_
            refine WX.s1 rfl rfl ?_
            refine WX.s1 rfl rfl ?_
            refine WX.s1 rfl rfl ?_
            refine WX.s1 (S' := [.int (8 * (nI i)), .int 56, .long x, .ref 1]) rfl rfl ?_
            refine WX.s1 (S' := [.int (56 - (8 * (nI i))), .long x, .ref 1]) rfl rfl ?_
            refine WX.s1 (S' := [.long ((x.toUInt64 >>> ((56 - (8 * (nI i))).toInt64.toUInt64 &&& Int64.toUInt64 63)).toInt64), .ref 1]) rfl rfl ?_
            refine WX.s1 (S' := [.int (((x.toUInt64 >>> ((56 - (8 * (nI i))).toInt64.toUInt64 &&& Int64.toUInt64 63)).toInt64).toInt32), .ref 1]) rfl rfl ?_
            refine WX.callC (vs := [.ref 1, .int (((x.toUInt64 >>> ((56 - (8 * (nI i))).toInt64.toUInt64 &&& Int64.toUInt64 63)).toInt64).toInt32)]) rfl rfl rfl (Nat.le_of_ble_eq_true rfl) (P_hL_in.rcv (ltN hn (by decide))) ?_
            refine w_putB (ltN hn (by decide)) P_hL_in (by decide) (fun h52 fr P_h52_in => ?_)
            have F_h52_0 : h52 0 = .inr (10, [.ref 1, .ref ou, .ref ne, .ref 7, .long id, .ref sta, .ref dra, .ref 67, .ref 81, .ref 189, .int way, .int least]) := (fr _ (by first | decide | omega)).trans F_hL_0
            have FR_h52 : Fr h h52 (fun j => j = 1 ∨ j = 2) := FR_hL.ztr fr
            show WX _ _ _ 55 [(0, .ref 0), (1, .long x), (3, .int (nI q)), (4, .int (nI i))] [] (n, s, h52)
            have P2 := P_h52_in
            rw [sh56 (show i < 8 by omega), leB_of x (show 7 - i < 8 by omega), bput_ok (by rw [List.length_append, hiL_len]; omega)] at P2
            refine WX.s1 (L' := [(0, .ref 0), (1, .long x), (3, .int (nI q)), (4, .int ((nI i) + 1))]) rfl rfl ?_
            refine WX.s1 rfl rfl ?_
            rw [nI_1 i]
            refine ih (i + 1) h52 (by omega) FR_h52 ?_
            rw [hiL_succ, ← List.append_assoc]
            exact P2
        exact lp q 0 h (by omega) FR_h (by rw [show hiL x 0 = [] from rfl, List.append_nil]; exact P_h_in)
      · skip
        refine WX.s1 rfl rfl ?_
        exact WX.ret3 rfl (Or.inl rfl) (k0 (by first | exact Or.inl c_2 | exact Or.inr (Or.inl c_8) | exact Or.inr (Or.inr (Int32.not_le.mp c_23))))
theorem InIs.st {I J : Nat → Int32} {A : Nat → Nat → Int32} {l : List Nat} {x : Nat} (F : InIs I A l) (K : J 1 = nI (l.length + 1)) : InIs J (upA A 1 l.length (nI x)) (l ++ [x]) := by
  refine ⟨by rw [List.length_append]; exact K, fun i hi => ?_⟩
  rw [List.length_append, List.length_singleton] at hi
  rw [upA_same, getD_app]
  by_cases q : i = l.length
  · rw [if_pos q, q, pk_us]
  · rw [if_neg q, pk_un q]
    exact F.2 i (by omega)
set_option maxRecDepth 20000 in
theorem m_writeL {d n s : Nat} {h : Nat → aE} {m : Nat} {I : Nat → Int32} {AR : Nat → Nat → Int32} {LN : Nat → Int64} {l : List Nat} {x : Int64} {nn : Int32} (hm : m + 43 < n) (M_h : MAt h m I AR LN) (hF : InIs I AR l) (hl : l.length ≤ 8000)  {Ψ : Option Value → aH → Prop} (k0 : wBad l.length nn → Ψ (some (.int 0)) (n, s, h)) (k1 : ∀ h' I' A' q, ¬ wBad l.length nn → nn = nI q → q ≤ 8 → Fr h h' (inM m) → MAt h' m I' A' LN → Fi I I' (fun f => f = 1) → Fa AR A' 1 → InIs I' A' (l ++ hiL x q) → Ψ (some (.int 1)) (n, s, h')) : WO (mM (d + 1)) 142 [.ref m, .long x, .int nn] (n, s, h) Ψ := by
  refine WO.of (Nat.le_of_ble_eq_true rfl) ?_
  have FR_h : Fr h h (inM m) := Fr.rf
  have FI_I : Fi I I (fun f => f = 1) := Fi.rf
  have K_I_1 : I 1 = nI l.length := hF.1
  show WX (lk tX12_write) (mM d) Ψ 0 [(0, .ref m), (1, .long x), (3, .int nn)] [] (n, s, h)
  refine WX.s1 rfl rfl ?_
  refine WX.s1 rfl rfl ?_
  refine WX.icmp rfl (fun c_2 => ?_) (fun c_2 => ?_)
  · skip
    refine WX.s1 rfl rfl ?_
    exact WX.ret3 rfl (Or.inl rfl) (k0 (by first | exact Or.inl c_2 | exact Or.inr (Or.inl c_8) | exact Or.inr (Or.inr (Int32.not_le.mp c_20))))
  · skip
    refine WX.s1 rfl rfl ?_
    refine WX.s1 rfl rfl ?_
    refine WX.icmp rfl (fun c_8 => ?_) (fun c_8 => ?_)
    · skip
      refine WX.s1 rfl rfl ?_
      exact WX.ret3 rfl (Or.inl rfl) (k0 (by first | exact Or.inl c_2 | exact Or.inr (Or.inl c_8) | exact Or.inr (Or.inr (Int32.not_le.mp c_20))))
    · skip
      refine WX.s1 rfl rfl ?_
      refine WX.mgetK (x := (nI l.length)) rfl hm M_h rfl K_I_1 ?_
      refine WX.s1 rfl rfl ?_
      refine WX.s1 (S' := [.int ((nI l.length) + nn)]) rfl rfl ?_
      refine WX.s1 rfl rfl ?_
      refine WX.icmp rfl (fun c_20 => ?_) (fun c_20 => ?_)
      · skip
        have hgood : ¬ wBad l.length nn := by
          rintro (q | q | q)
          · exact c_2 q
          · exact c_8 q
          · exact (Int32.not_lt.mpr c_20) q
        obtain ⟨q, hq1, hq8, rfl⟩ := nI_18 c_2 c_8
        have hle : l.length + q ≤ 8000 := (nI_leI (b := 8000) (by omega) (by decide)).mp (by rw [← nI_add]; exact c_20)
        refine WX.s1 rfl rfl ?_
        refine WX.s1 (L' := [(0, .ref m), (1, .long x), (3, .int (nI q)), (4, .int 0)]) rfl rfl ?_
        have lp : ∀ (t i : Nat) (hL : Nat → aE) (IL : Nat → Int32) (AL : Nat → Nat → Int32), i + t = q → Fr h hL (inM m) → MAt hL m IL AL LN → Fi I IL (fun f => f = 1) → Fa AR AL 1 → InIs IL AL (l ++ hiL x i) → WX (lk tX12_write) (mM d) Ψ 28 [(0, .ref m), (1, .long x), (3, .int (nI q)), (4, .int (nI i))] [] (n, s, hL) := by
          clear M_h FR_h FI_I K_I_1
          intro t
          induction t with
          | zero =>
            intro i hL IL AL ht FR_hL M_hL FI_IL FA_AL hInv
            have elen : (l ++ hiL x i).length = l.length + i := by rw [List.length_append, hiL_len]
            have K_IL_1 : IL 1 = nI (l.length + i) := by rw [← elen]; exact hInv.1
            refine WX.s1 rfl rfl ?_
            refine WX.s1 rfl rfl ?_
            refine WX.icmp rfl (fun c_31 => ?_) (fun c_31 => absurd (nI_le (by omega) (by omega)) c_31)
            refine WX.s1 rfl rfl ?_
            obtain rfl : i = q := by omega
            exact WX.ret3 rfl (Or.inr rfl) (k1 hL IL AL i hgood rfl hq8 FR_hL M_hL FI_IL FA_AL hInv)
          | succ t ih =>
            intro i hL IL AL ht FR_hL M_hL FI_IL FA_AL hInv
            have elen : (l ++ hiL x i).length = l.length + i := by rw [List.length_append, hiL_len]
            have K_IL_1 : IL 1 = nI (l.length + i) := by rw [← elen]; exact hInv.1
            refine WX.s1 rfl rfl ?_
            refine WX.s1 rfl rfl ?_
            refine WX.icmp rfl (fun c_31 => absurd c_31 (nI_ge (by omega) (by omega))) (fun c_31 => ?_)
            refine WX.s1 rfl rfl ?_
            refine WX.mget rfl hm M_hL rfl ?_
            refine WX.s1 rfl rfl ?_
            refine WX.mgetK (x := (nI (l.length + i))) rfl hm M_hL rfl K_IL_1 ?_
            refine WX.s1 rfl rfl ?_
            refine WX.s1 rfl rfl ?_
            refine WX.s1 rfl rfl ?_
            refine WX.s1 rfl rfl ?_
            refine WX.s1 (S' := [.int (8 * (nI i)), .int 56, .long x, .int (nI (l.length + i)), .ref (m + 1)]) rfl rfl ?_
            refine WX.s1 (S' := [.int (56 - (8 * (nI i))), .long x, .int (nI (l.length + i)), .ref (m + 1)]) rfl rfl ?_
            refine WX.s1 (S' := [.long (x >>> ((56 - (8 * (nI i))).toInt64 &&& 63)), .int (nI (l.length + i)), .ref (m + 1)]) rfl rfl ?_
            refine WX.s1 rfl rfl ?_
            refine WX.s1 (S' := [.long ((x >>> ((56 - (8 * (nI i))).toInt64 &&& 63)) &&& 255), .int (nI (l.length + i)), .ref (m + 1)]) rfl rfl ?_
            refine WX.s1 (S' := [.int (((x >>> ((56 - (8 * (nI i))).toInt64 &&& 63)) &&& 255).toInt32), .int (nI (l.length + i)), .ref (m + 1)]) rfl rfl ?_
            refine WX.mast (c := 1) rfl hm M_hL (by decide) (by decide) (by decide) (by decide) (vp_in_nI (N := 8000) (by omega) (by decide)) (fun h57n1 A57n1 e_A57n1 M_h57n1 frh57n1 => ?_)
            try dsimp only at e_A57n1
            have FR_h57n1 := FR_hL.ztr frh57n1
            clear M_hL FR_hL frh57n1
            refine WX.s1 rfl rfl ?_
            refine WX.s1 rfl rfl ?_
            refine WX.mgetK (x := (nI (l.length + i))) rfl hm M_h57n1 rfl K_IL_1 ?_
            refine WX.s1 rfl rfl ?_
            refine WX.s1 (S' := [.int ((nI (l.length + i)) + 1), .ref m]) rfl rfl ?_
            refine WX.mput rfl hm M_h57n1 (rfl) (by decide) (fun _ => rfl) (fun h65n2 I65n2 e_I65n2 M_h65n2 frh65n2 => ?_)
            have FR_h65n2 := FR_h57n1.ztr frh65n2
            have FI_I65n2 : Fi I I65n2 (fun f => f = 1) := FI_IL.zup e_I65n2 (by first | exact rfl | decide | omega)
            have K_I65n2_1 : I65n2 1 = (nI (l.length + i + 1)) := by rw [e_I65n2]; exact pk_us.trans (nI_1 _)
            clear M_h57n1 FR_h57n1 FI_IL e_I65n2 frh65n2 K_IL_1
            refine WX.s1 (L' := [(0, .ref m), (1, .long x), (3, .int (nI q)), (4, .int ((nI i) + 1))]) rfl rfl ?_
            refine WX.s1 rfl rfl ?_
            rw [nI_1 i]
            rw [sh56 (show i < 8 by omega), leN x (show 7 - i < 8 by omega), nI_clamp (by omega), ← elen] at e_A57n1
            refine ih (i + 1) h65n2 I65n2 A57n1 (by omega) FR_h65n2 M_h65n2 FI_I65n2 (FA_AL.ast e_A57n1) ?_
            rw [hiL_succ, ← List.append_assoc, e_A57n1]
            exact hInv.st (by rw [elen]; exact K_I65n2_1)
        exact lp q 0 h I AR (by omega) FR_h M_h FI_I Fa.rf (by rw [show hiL x 0 = [] from rfl, List.append_nil]; exact hF)
      · skip
        refine WX.s1 rfl rfl ?_
        exact WX.ret3 rfl (Or.inl rfl) (k0 (by first | exact Or.inl c_2 | exact Or.inr (Or.inl c_8) | exact Or.inr (Or.inr (Int32.not_le.mp c_20))))
def agL (m : Nat) (l : List Nat) : Nat → List Nat
  | 0 => l
  | t + 1 => agL m l t ++ [(agL m l t).getD ((agL m l t).length - m) 0]
theorem agL_len (m : Nat) (l : List Nat) (t : Nat) : (agL m l t).length = l.length + t := by
  induction t with
  | zero => rfl
  | succ t ih =>
    show (agL m l t ++ [_]).length = _
    rw [List.length_append, ih]
    rfl
theorem lcmp_le {x y : Int64} : lg_cmp x y ≤ 0 ↔ x ≤ y := by
  unfold lg_cmp
  by_cases h : x > y
  · rw [if_pos h]
    exact ⟨fun q => absurd q (by decide), fun q => absurd h (Int64.not_lt.mpr q)⟩
  · rw [if_neg h]
    refine ⟨fun _ => Int64.not_lt.mp h, fun _ => ?_⟩
    by_cases e : x = y
    · rw [if_pos e]; decide
    · rw [if_neg e]; decide
def aBad (u : Nat) (a b : Int32) : Prop := a < 1 ∨ nI u < a ∨ b < 0 ∨ 8000 < (nI u).toInt64 + a.toInt64 * b.toInt64
theorem ag_nat {u : Nat} {a b : Int32} (hu : u ≤ 8000) (h : ¬ aBad u a b) : ∃ p q, a = nI p ∧ b = nI q ∧ 1 ≤ p ∧ p ≤ u ∧ q < 2 ^ 31 ∧ u + p * q ≤ 8000 := by
  have h1 : ¬ a < 1 := fun z => h (Or.inl z)
  have h2 : ¬ nI u < a := fun z => h (Or.inr (Or.inl z))
  have h3 : ¬ b < 0 := fun z => h (Or.inr (Or.inr (Or.inl z)))
  have h4 : ¬ 8000 < (nI u).toInt64 + a.toInt64 * b.toInt64 := fun z => h (Or.inr (Or.inr (Or.inr z)))
  have a0 : ¬ a < 0 := fun z => h1 (Int32.lt_trans z (by decide))
  obtain ⟨p, hp, rfl⟩ := nI_of a0
  obtain ⟨q, hq, rfl⟩ := nI_of h3
  have hpu : p ≤ u := Nat.le_of_not_lt (fun z => h2 (nI_lt z hp))
  have hp1 : 1 ≤ p := Nat.pos_of_ne_zero (fun z => h1 (by rw [z]; decide))
  refine ⟨p, q, rfl, rfl, hp1, hpu, hq, ?_⟩
  rw [nI_l (by omega), nI_l hp, nI_l hq, lN_mul, lN_add] at h4
  have hb : p * q < 2 ^ 13 * 2 ^ 31 := Nat.mul_lt_mul_of_lt_of_lt (by omega) hq
  exact Nat.le_of_not_lt (fun z => h4 ((pk_lLT (a := 8000) (by decide) (by omega)).mpr z))
theorem ag_bad {u p q : Nat} (hu : u ≤ 8000) (hp1 : 1 ≤ p) (hpu : p ≤ u) (hq : q < 2 ^ 31) (h : u + p * q ≤ 8000) : ¬ aBad u (nI p) (nI q) := by
  have hb : p * q < 2 ^ 13 * 2 ^ 31 := Nat.mul_lt_mul_of_lt_of_lt (by omega) hq
  rintro (z | z | z | z)
  · exact absurd ((nI_ltI (b := 1) (by omega) (by decide)).mp z) (by omega)
  · exact absurd ((nI_ltI (by omega) (by omega)).mp z) (by omega)
  · exact nI_pos hq z
  · rw [nI_l (by omega), nI_l (by omega), nI_l hq, lN_mul, lN_add] at z
    exact absurd ((pk_lLT (a := 8000) (by decide) (by omega)).mp z) (by omega)
theorem byt_and {c : Nat} (hc : c < 256) : byt (sb_b c &&& 255) = c := by
  rw [(sb_byte c hc).1, byt_nI, Nat.mod_eq_of_lt hc]
set_option maxRecDepth 20000 in
theorem x_againL {d n s : Nat} {h : Nat → aE} {ou ne sta dra : Nat} {id : Int64} {way least : Int32} {l : List Nat} {a b : Int32} (hn : 190 ≤ n) (hl : l.length ≤ 8000) (F_h_0 : h 0 = .inr (10, [.ref 1, .ref ou, .ref ne, .ref 7, .long id, .ref sta, .ref dra, .ref 67, .ref 81, .ref 189, .int way, .int least])) (P_h_in : RowIs h 1 8000 (some l) 0 0) {Ψ : Option Value → aH → Prop} (k0 : aBad l.length a b → Ψ (some (.int 0)) (n, s, h)) (k1 : ∀ h' p q, ¬ aBad l.length a b → a = nI p → b = nI q → Fr h h' (fun j => j = 1 ∨ j = 2) → RowIs h' 1 8000 (some (agL p l (p * q))) 0 0 → Ψ (some (.int 1)) (n, s, h')) : WO (mM (d + 2)) 125 [.ref 0, .int a, .int b] (n, s, h) Ψ := by
  refine WO.of (Nat.le_of_ble_eq_true rfl) ?_
  have FR_h : Fr h h (fun j => j = 1 ∨ j = 2) := Fr.rf
  obtain ⟨g, rA, -⟩ := P_h_in.at_
  have F_h_1 := rA.1
  show WX (lk tX11_again) (mM (d + 1)) Ψ 0 [(0, .ref 0), (1, .int a), (2, .int b)] [] (n, s, h)
  refine WX.s1 rfl rfl ?_
  refine WX.s1 rfl rfl ?_
  refine WX.icmp rfl (fun c_2 => ?_) (fun c_2 => ?_)
  · skip
    refine WX.s1 rfl rfl ?_
    exact WX.ret3 rfl (Or.inl rfl) (k0 (by first | exact Or.inl c_2 | exact Or.inr (Or.inl c_13) | exact Or.inr (Or.inr (Or.inl c_17)) | exact Or.inr (Or.inr (Or.inr (Int64.not_le.mp (fun z => c_38 (lcmp_le.mpr z)))))))
  · skip
    refine WX.s1 rfl rfl ?_
    refine WX.s1 rfl rfl ?_
    refine WX.get1 (fs := [.ref 1, .ref ou, .ref ne, .ref 7, .long id, .ref sta, .ref dra, .ref 67, .ref 81, .ref 189, .int way, .int least]) rfl (ltN hn (by decide)) (F_h_0) rfl ?_
    refine WX.get1 (fs := [.ref 2, .int (nI l.length), .int 0, .long 0, .int 0]) rfl (ltN hn (by decide)) (F_h_1) rfl ?_
    refine WX.icmp rfl (fun c_13 => ?_) (fun c_13 => ?_)
    · skip
      refine WX.s1 rfl rfl ?_
      exact WX.ret3 rfl (Or.inl rfl) (k0 (by first | exact Or.inl c_2 | exact Or.inr (Or.inl c_13) | exact Or.inr (Or.inr (Or.inl c_17)) | exact Or.inr (Or.inr (Or.inr (Int64.not_le.mp (fun z => c_38 (lcmp_le.mpr z)))))))
    · skip
      refine WX.s1 rfl rfl ?_
      refine WX.if_ rfl (fun c_17 => ?_) (fun c_17 => ?_)
      · skip
        refine WX.s1 rfl rfl ?_
        exact WX.ret3 rfl (Or.inl rfl) (k0 (by first | exact Or.inl c_2 | exact Or.inr (Or.inl c_13) | exact Or.inr (Or.inr (Or.inl c_17)) | exact Or.inr (Or.inr (Or.inr (Int64.not_le.mp (fun z => c_38 (lcmp_le.mpr z)))))))
      · skip
        refine WX.s1 rfl rfl ?_
        refine WX.get1 (fs := [.ref 1, .ref ou, .ref ne, .ref 7, .long id, .ref sta, .ref dra, .ref 67, .ref 81, .ref 189, .int way, .int least]) rfl (ltN hn (by decide)) (F_h_0) rfl ?_
        refine WX.get1 (fs := [.ref 2, .int (nI l.length), .int 0, .long 0, .int 0]) rfl (ltN hn (by decide)) (F_h_1) rfl ?_
        refine WX.s1 (S' := [.long ((nI l.length).toInt64)]) rfl rfl ?_
        refine WX.s1 rfl rfl ?_
        refine WX.s1 (S' := [.long (a.toInt64), .long ((nI l.length).toInt64)]) rfl rfl ?_
        refine WX.s1 rfl rfl ?_
        refine WX.s1 (S' := [.long (b.toInt64), .long (a.toInt64), .long ((nI l.length).toInt64)]) rfl rfl ?_
        refine WX.s1 (S' := [.long ((a.toInt64) * (b.toInt64)), .long ((nI l.length).toInt64)]) rfl rfl ?_
        refine WX.s1 (S' := [.long (((nI l.length).toInt64) + ((a.toInt64) * (b.toInt64)))]) rfl rfl ?_
        refine WX.s1 rfl rfl ?_
        refine WX.s1 (S' := [.int (lg_cmp (((nI l.length).toInt64) + ((a.toInt64) * (b.toInt64))) 8000)]) rfl rfl ?_
        refine WX.if_ rfl (fun c_38 => ?_) (fun c_38 => ?_)
        · skip
          have hgood : ¬ aBad l.length a b := by
            rintro (q | q | q | q)
            · exact c_2 q
            · exact c_13 q
            · exact c_17 q
            · exact (Int64.not_lt.mpr (lcmp_le.mp c_38)) q
          obtain ⟨p, q, rfl, rfl, hp1, hpu, hq, hle⟩ := ag_nat hl hgood
          clear c_2 c_13 c_17 c_38
          refine WX.s1 rfl rfl ?_
          refine WX.s1 rfl rfl ?_
          refine WX.s1 (S' := [.int ((nI p) * (nI q))]) rfl rfl ?_
          refine WX.s1 (L' := [(0, .ref 0), (1, .int (nI p)), (2, .int (nI q)), (3, .int ((nI p) * (nI q)))]) rfl rfl ?_
          refine WX.s1 rfl rfl ?_
          refine WX.s1 (L' := [(0, .ref 0), (1, .int (nI p)), (2, .int (nI q)), (3, .int ((nI p) * (nI q))), (4, .int 0)]) rfl rfl ?_
          rw [show nI p * nI q = nI (p * q) from (Int32.ofNat_mul p q).symm]
          have lp : ∀ (t i : Nat) (hL : Nat → aE), i + t = p * q → Fr h hL (fun j => j = 1 ∨ j = 2) → RowIs hL 1 8000 (some (agL p l i)) 0 0 → WX (lk tX11_again) (mM (d + 1)) Ψ 50 [(0, .ref 0), (1, .int (nI p)), (2, .int (nI q)), (3, .int (nI (p * q))), (4, .int (nI i))] [] (n, s, hL) := by
            have F0 := F_h_0
            clear F_h_0 F_h_1 P_h_in FR_h rA
            intro t
            induction t with
            | zero =>
              intro i hL ht FR_hL P_hL_in
              have F_hL_0 : hL 0 = .inr (10, [.ref 1, .ref ou, .ref ne, .ref 7, .long id, .ref sta, .ref dra, .ref 67, .ref 81, .ref 189, .int way, .int least]) := (FR_hL 0 (by decide)).trans F0
              have elen := agL_len p l i
              obtain ⟨gi, ri, hri, hgi⟩ := P_hL_in.at_
              have F_hL_1 := ri.1
              refine WX.s1 rfl rfl ?_
              refine WX.s1 rfl rfl ?_
              refine WX.icmp rfl (fun c_53 => ?_) (fun c_53 => absurd (nI_le (by omega) (by omega)) c_53)
              refine WX.s1 rfl rfl ?_
              obtain rfl : i = p * q := by omega
              exact WX.ret3 rfl (Or.inr rfl) (k1 hL p q hgood rfl rfl FR_hL P_hL_in)
            | succ t ih =>
              intro i hL ht FR_hL P_hL_in
              have F_hL_0 : hL 0 = .inr (10, [.ref 1, .ref ou, .ref ne, .ref 7, .long id, .ref sta, .ref dra, .ref 67, .ref 81, .ref 189, .int way, .int least]) := (FR_hL 0 (by decide)).trans F0
              have elen := agL_len p l i
              obtain ⟨gi, ri, hri, hgi⟩ := P_hL_in.at_
              have F_hL_1 := ri.1
              refine WX.s1 rfl rfl ?_
              refine WX.s1 rfl rfl ?_
              refine WX.icmp rfl (fun c_53 => absurd c_53 (nI_ge (by omega) (by omega))) (fun c_53 => ?_)
              refine WX.s1 rfl rfl ?_
              refine WX.get1 (fs := [.ref 1, .ref ou, .ref ne, .ref 7, .long id, .ref sta, .ref dra, .ref 67, .ref 81, .ref 189, .int way, .int least]) rfl (ltN hn (by decide)) (F_hL_0) rfl ?_
              refine WX.s1 rfl rfl ?_
              refine WX.get1 (fs := [.ref 1, .ref ou, .ref ne, .ref 7, .long id, .ref sta, .ref dra, .ref 67, .ref 81, .ref 189, .int way, .int least]) rfl (ltN hn (by decide)) (F_hL_0) rfl ?_
              refine WX.s1 rfl rfl ?_
              refine WX.get1 (fs := [.ref 1, .ref ou, .ref ne, .ref 7, .long id, .ref sta, .ref dra, .ref 67, .ref 81, .ref 189, .int way, .int least]) rfl (ltN hn (by decide)) (F_hL_0) rfl ?_
              refine WX.get1 (fs := [.ref 2, .int (nI (agL p l i).length), .int 0, .long 0, .int 0]) rfl (ltN hn (by decide)) (F_hL_1) rfl ?_
              refine WX.s1 rfl rfl ?_
              refine WX.s1 (S' := [.int ((nI (agL p l i).length) - (nI p)), .ref 1, .ref 1]) rfl rfl ?_
              have esub : nI (agL p l i).length - nI p = nI ((agL p l i).length - p) := by
                obtain ⟨z, hz⟩ : ∃ z, (agL p l i).length = z + p := ⟨(agL p l i).length - p, by omega⟩
                rw [hz, ← nI_add, Nat.add_sub_cancel]
                exact Int32.add_sub_cancel _ _
              rw [esub]
              refine WX.callC (vs := [.ref 1, .int (nI ((agL p l i).length - p))]) rfl rfl rfl (Nat.le_of_ble_eq_true rfl) (rcv_ok (ltN hn (by decide)) F_hL_1) ?_
              refine w_at (ltN hn (by decide)) ri (by omega) (by decide) (fun j ej hj => ?_) (fun z => ?_)
              · skip
                obtain rfl : (agL p l i).length - p = j := (nI_eq (by omega) (by omega)).mp ej
                rw [(hgi _ hj).2]
                show WX _ _ _ 76 [(0, .ref 0), (1, .int (nI p)), (2, .int (nI q)), (3, .int (nI (p * q))), (4, .int (nI i))] [.int (sb_b ((agL p l i).getD ((agL p l i).length - p) 0) &&& 255), .ref 1] (n, s, hL)
                refine WX.callC (vs := [.ref 1, .int (sb_b ((agL p l i).getD ((agL p l i).length - p) 0) &&& 255)]) rfl rfl rfl (Nat.le_of_ble_eq_true rfl) (P_hL_in.rcv (ltN hn (by decide))) ?_
                refine w_putB (ltN hn (by decide)) P_hL_in (by decide) (fun h76 fr P_h76_in => ?_)
                have F_h76_0 : h76 0 = .inr (10, [.ref 1, .ref ou, .ref ne, .ref 7, .long id, .ref sta, .ref dra, .ref 67, .ref 81, .ref 189, .int way, .int least]) := (fr _ (by first | decide | omega)).trans F_hL_0
                have FR_h76 : Fr h h76 (fun j => j = 1 ∨ j = 2) := FR_hL.ztr fr
                show WX _ _ _ 79 [(0, .ref 0), (1, .int (nI p)), (2, .int (nI q)), (3, .int (nI (p * q))), (4, .int (nI i))] [] (n, s, h76)
                have P2 := P_h76_in
                rw [byt_and (hgi _ hj).1, bput_ok (by omega)] at P2
                refine WX.s1 (L' := [(0, .ref 0), (1, .int (nI p)), (2, .int (nI q)), (3, .int (nI (p * q))), (4, .int ((nI i) + 1))]) rfl rfl ?_
                refine WX.s1 rfl rfl ?_
                rw [nI_1 i]
                refine ih (i + 1) h76 (by omega) FR_h76 ?_
                exact P2
              · exfalso
                rcases z with z | z
                · exact nI_pos (by omega) z
                · exact absurd ((nI_leI (by omega) (by omega)).mp z) (by omega)
          exact lp (p * q) 0 h (by omega) FR_h P_h_in
        · skip
          refine WX.s1 rfl rfl ?_
          exact WX.ret3 rfl (Or.inl rfl) (k0 (by first | exact Or.inl c_2 | exact Or.inr (Or.inl c_13) | exact Or.inr (Or.inr (Or.inl c_17)) | exact Or.inr (Or.inr (Or.inr (Int64.not_le.mp (fun z => c_38 (lcmp_le.mpr z)))))))
theorem ag_room {u : Nat} {a b : Int32} (hu : u ≤ 8000) (h1 : ¬ a < 1) (h2 : ¬ nI u < a) (h3 : ¬ b < 0) : a.toInt64 * b.toInt64 ≤ ((8000 : Int32) - nI u).toInt64 ↔ ¬ aBad u a b := by
  have a0 : ¬ a < 0 := fun z => h1 (Int32.lt_trans z (by decide))
  obtain ⟨p, hp, rfl⟩ := nI_of a0
  obtain ⟨q, hq, rfl⟩ := nI_of h3
  have hpu : p ≤ u := Nat.le_of_not_lt (fun z => h2 (nI_lt z hp))
  have hp1 : 1 ≤ p := Nat.pos_of_ne_zero (fun z => h1 (by rw [z]; decide))
  have hb : p * q < 2 ^ 13 * 2 ^ 31 := Nat.mul_lt_mul_of_lt_of_lt (by omega) hq
  have e : (8000 : Int32) - nI u = nI (8000 - u) := by
    obtain ⟨z, hz⟩ : ∃ z, 8000 = z + u := ⟨8000 - u, by omega⟩
    rw [show (8000 : Int32) = nI 8000 from rfl, show nI 8000 = nI (z + u) by rw [← hz], ← nI_add, show 8000 - u = z by omega]
    exact Int32.add_sub_cancel _ _
  rw [e, nI_l hp, nI_l hq, nI_l (by omega), lN_mul, pk_lLE (by omega) (by omega)]
  constructor
  · intro z
    exact ag_bad hu hp1 hpu hq (by omega)
  · intro z
    obtain ⟨p2, q2, e1, e2, -, hp2, hq2, hle⟩ := ag_nat hu z
    have hp2 : p2 < 2 ^ 31 := by omega
    rw [(nI_eq hp hp2).mp e1, (nI_eq hq hq2).mp e2]
    omega
set_option maxRecDepth 20000 in
theorem m_againL {d n s : Nat} {h : Nat → aE} {m : Nat} {I : Nat → Int32} {AR : Nat → Nat → Int32} {LN : Nat → Int64} {l : List Nat} {a b : Int32} (hm : m + 43 < n) (M_h : MAt h m I AR LN) (hF : InIs I AR l) (hl : l.length ≤ 8000)  {Ψ : Option Value → aH → Prop} (k0 : aBad l.length a b → Ψ (some (.int 0)) (n, s, h)) (k1 : ∀ h' I' A' p q, ¬ aBad l.length a b → a = nI p → b = nI q → Fr h h' (inM m) → MAt h' m I' A' LN → Fi I I' (fun f => f = 1) → Fa AR A' 1 → InIs I' A' (agL p l (p * q)) → Ψ (some (.int 1)) (n, s, h')) : WO (mM (d + 1)) 143 [.ref m, .int a, .int b] (n, s, h) Ψ := by
  refine WO.of (Nat.le_of_ble_eq_true rfl) ?_
  have FR_h : Fr h h (inM m) := Fr.rf
  have FI_I : Fi I I (fun f => f = 1) := Fi.rf
  have K_I_1 : I 1 = nI l.length := hF.1
  show WX (lk tX12_again) (mM d) Ψ 0 [(0, .ref m), (1, .int a), (2, .int b)] [] (n, s, h)
  refine WX.s1 rfl rfl ?_
  refine WX.s1 rfl rfl ?_
  refine WX.icmp rfl (fun c_2 => ?_) (fun c_2 => ?_)
  · skip
    refine WX.s1 rfl rfl ?_
    exact WX.ret3 rfl (Or.inl rfl) (k0 (by first | exact Or.inl c_2 | exact Or.inr (Or.inl c_10) | exact Or.inr (Or.inr (Or.inl c_14)) | exact Classical.byContradiction (fun z => c_32 (lcmp_le.mpr ((ag_room hl c_2 c_10 c_14).mpr z)))))
  · skip
    refine WX.s1 rfl rfl ?_
    refine WX.s1 rfl rfl ?_
    refine WX.mgetK (x := (nI l.length)) rfl hm M_h rfl K_I_1 ?_
    refine WX.icmp rfl (fun c_10 => ?_) (fun c_10 => ?_)
    · skip
      refine WX.s1 rfl rfl ?_
      exact WX.ret3 rfl (Or.inl rfl) (k0 (by first | exact Or.inl c_2 | exact Or.inr (Or.inl c_10) | exact Or.inr (Or.inr (Or.inl c_14)) | exact Classical.byContradiction (fun z => c_32 (lcmp_le.mpr ((ag_room hl c_2 c_10 c_14).mpr z)))))
    · skip
      refine WX.s1 rfl rfl ?_
      refine WX.if_ rfl (fun c_14 => ?_) (fun c_14 => ?_)
      · skip
        refine WX.s1 rfl rfl ?_
        exact WX.ret3 rfl (Or.inl rfl) (k0 (by first | exact Or.inl c_2 | exact Or.inr (Or.inl c_10) | exact Or.inr (Or.inr (Or.inl c_14)) | exact Classical.byContradiction (fun z => c_32 (lcmp_le.mpr ((ag_room hl c_2 c_10 c_14).mpr z)))))
      · skip
        refine WX.s1 rfl rfl ?_
        refine WX.s1 (S' := [.long (a.toInt64)]) rfl rfl ?_
        refine WX.s1 rfl rfl ?_
        refine WX.s1 (S' := [.long (b.toInt64), .long (a.toInt64)]) rfl rfl ?_
        refine WX.s1 (S' := [.long ((a.toInt64) * (b.toInt64))]) rfl rfl ?_
        refine WX.s1 rfl rfl ?_
        refine WX.s1 rfl rfl ?_
        refine WX.mgetK (x := (nI l.length)) rfl hm M_h rfl K_I_1 ?_
        refine WX.s1 (S' := [.int (8000 - (nI l.length)), .long ((a.toInt64) * (b.toInt64))]) rfl rfl ?_
        refine WX.s1 (S' := [.long ((8000 - (nI l.length)).toInt64), .long ((a.toInt64) * (b.toInt64))]) rfl rfl ?_
        refine WX.s1 (S' := [.int (lg_cmp ((a.toInt64) * (b.toInt64)) ((8000 - (nI l.length)).toInt64))]) rfl rfl ?_
        refine WX.if_ rfl (fun c_32 => ?_) (fun c_32 => ?_)
        · skip
          have hgood : ¬ aBad l.length a b := (ag_room hl c_2 c_10 c_14).mp (lcmp_le.mp c_32)
          obtain ⟨p, q, rfl, rfl, hp1, hpu, hq, hle⟩ := ag_nat hl hgood
          clear c_2 c_10 c_14 c_32
          refine WX.s1 rfl rfl ?_
          refine WX.s1 (L' := [(0, .ref m), (1, .int (nI p)), (2, .int (nI q)), (3, .int 0)]) rfl rfl ?_
          have lp : ∀ (t i : Nat) (hL : Nat → aE) (IL : Nat → Int32) (AL : Nat → Nat → Int32), i + t = p * q → Fr h hL (inM m) → MAt hL m IL AL LN → Fi I IL (fun f => f = 1) → Fa AR AL 1 → InIs IL AL (agL p l i) → WX (lk tX12_again) (mM d) Ψ 39 [(0, .ref m), (1, .int (nI p)), (2, .int (nI q)), (3, .int (nI i))] [] (n, s, hL) := by
            clear M_h FR_h FI_I K_I_1
            intro t
            induction t with
            | zero =>
              intro i hL IL AL ht FR_hL M_hL FI_IL FA_AL hInv
              have elen := agL_len p l i
              have K_IL_1 : IL 1 = nI (agL p l i).length := hInv.1
              refine WX.s1 rfl rfl ?_
              refine WX.s1 rfl rfl ?_
              refine WX.s1 rfl rfl ?_
              refine WX.s1 (S' := [.int ((nI p) * (nI q)), .int (nI i)]) rfl rfl ?_
              rw [show nI p * nI q = nI (p * q) from (Int32.ofNat_mul p q).symm]
              refine WX.icmp rfl (fun c_43 => ?_) (fun c_43 => absurd (nI_le (by omega) (by omega)) c_43)
              refine WX.s1 rfl rfl ?_
              obtain rfl : i = p * q := by omega
              exact WX.ret3 rfl (Or.inr rfl) (k1 hL IL AL p q hgood rfl rfl FR_hL M_hL FI_IL FA_AL hInv)
            | succ t ih =>
              intro i hL IL AL ht FR_hL M_hL FI_IL FA_AL hInv
              have elen := agL_len p l i
              have K_IL_1 : IL 1 = nI (agL p l i).length := hInv.1
              refine WX.s1 rfl rfl ?_
              refine WX.s1 rfl rfl ?_
              refine WX.s1 rfl rfl ?_
              refine WX.s1 (S' := [.int ((nI p) * (nI q)), .int (nI i)]) rfl rfl ?_
              rw [show nI p * nI q = nI (p * q) from (Int32.ofNat_mul p q).symm]
              refine WX.icmp rfl (fun c_43 => absurd c_43 (nI_ge (by omega) (by omega))) (fun c_43 => ?_)
              refine WX.s1 rfl rfl ?_
              refine WX.mget rfl hm M_hL rfl ?_
              refine WX.s1 rfl rfl ?_
              refine WX.mgetK (x := (nI (agL p l i).length)) rfl hm M_hL rfl K_IL_1 ?_
              refine WX.s1 rfl rfl ?_
              refine WX.mget rfl hm M_hL rfl ?_
              refine WX.s1 rfl rfl ?_
              refine WX.mgetK (x := (nI (agL p l i).length)) rfl hm M_hL rfl K_IL_1 ?_
              refine WX.s1 rfl rfl ?_
              refine WX.s1 (S' := [.int ((nI (agL p l i).length) - (nI p)), .ref (m + 1), .int (nI (agL p l i).length), .ref (m + 1)]) rfl rfl ?_
              have esub : nI (agL p l i).length - nI p = nI ((agL p l i).length - p) := by
                obtain ⟨z, hz⟩ : ∃ z, (agL p l i).length = z + p := ⟨(agL p l i).length - p, by omega⟩
                rw [hz, ← nI_add, Nat.add_sub_cancel]
                exact Int32.add_sub_cancel _ _
              rw [esub]
              refine WX.mald (c := 1) rfl hm M_hL (by decide) (by decide) (by decide) (by decide) (vp_in_nI (N := 8000) (by omega) (by decide)) ?_
              refine WX.mast (c := 1) rfl hm M_hL (by decide) (by decide) (by decide) (by decide) (vp_in_nI (N := 8000) (by omega) (by decide)) (fun h65n1 A65n1 e_A65n1 M_h65n1 frh65n1 => ?_)
              try dsimp only at e_A65n1
              have FR_h65n1 := FR_hL.ztr frh65n1
              clear M_hL FR_hL frh65n1
              refine WX.s1 rfl rfl ?_
              refine WX.s1 rfl rfl ?_
              refine WX.mgetK (x := (nI (agL p l i).length)) rfl hm M_h65n1 rfl K_IL_1 ?_
              refine WX.s1 rfl rfl ?_
              refine WX.s1 (S' := [.int ((nI (agL p l i).length) + 1), .ref m]) rfl rfl ?_
              refine WX.mput rfl hm M_h65n1 (rfl) (by decide) (fun _ => rfl) (fun h73n2 I73n2 e_I73n2 M_h73n2 frh73n2 => ?_)
              have FR_h73n2 := FR_h65n1.ztr frh73n2
              have FI_I73n2 : Fi I I73n2 (fun f => f = 1) := FI_IL.zup e_I73n2 (by first | exact rfl | decide | omega)
              have K_I73n2_1 : I73n2 1 = (nI ((agL p l i).length + 1)) := by rw [e_I73n2]; exact pk_us.trans (nI_1 _)
              clear M_h65n1 FR_h65n1 FI_IL e_I73n2 frh73n2 K_IL_1
              refine WX.s1 (L' := [(0, .ref m), (1, .int (nI p)), (2, .int (nI q)), (3, .int ((nI i) + 1))]) rfl rfl ?_
              refine WX.s1 rfl rfl ?_
              rw [nI_1 i]
              rw [nI_clamp (by omega), nI_clamp (by omega), hInv.2 _ (by omega)] at e_A65n1
              refine ih (i + 1) h73n2 I73n2 A65n1 (by omega) FR_h73n2 M_h73n2 FI_I73n2 (FA_AL.ast e_A65n1) ?_
              rw [e_A65n1]
              exact hInv.st K_I73n2_1
          exact lp (p * q) 0 h I AR (by omega) FR_h M_h FI_I Fa.rf hF
        · skip
          refine WX.s1 rfl rfl ?_
          exact WX.ret3 rfl (Or.inl rfl) (k0 (by first | exact Or.inl c_2 | exact Or.inr (Or.inl c_10) | exact Or.inr (Or.inr (Or.inl c_14)) | exact Classical.byContradiction (fun z => c_32 (lcmp_le.mpr ((ag_room hl c_2 c_10 c_14).mpr z)))))
