/-! putRow as lists; turn (both sides) -/
def sliceL (l : List Nat) (a b : Nat) : List Nat := (List.range (b - a)).map (fun i => l.getD (a + i) 0)
theorem sliceL_len (l : List Nat) (a b : Nat) : (sliceL l a b).length = b - a := by simp [sliceL]
theorem sliceL_get {l : List Nat} {a b i : Nat} (hi : i < b - a) : (sliceL l a b).getD i 0 = l.getD (a + i) 0 := by
  unfold sliceL
  rw [List.getD_eq_getElem?_getD, List.getElem?_map, List.getElem?_range hi]
  rfl
theorem sliceL_all (l : List Nat) : sliceL l 0 l.length = l := by
  apply List.ext_getElem?
  intro i
  unfold sliceL
  rw [List.getElem?_map]
  rcases Nat.lt_or_ge i l.length with z | z
  · rw [List.getElem?_range (by omega), List.getElem?_eq_getElem z]
    show some (l.getD (0 + i) 0) = _
    rw [Nat.zero_add, List.getD_eq_getElem?_getD, List.getElem?_eq_getElem z]
    rfl
  · rw [List.getElem?_eq_none (by rw [List.length_range]; omega), List.getElem?_eq_none z]
    rfl
theorem bputs_none (N : Nat) (l : List Nat) : bputs N none l = none := by
  induction l with
  | nil => rfl
  | cons a l ih => exact ih
theorem bputs_over {N : Nat} : ∀ (m l : List Nat), l.length ≤ N → N < l.length + m.length → bputs N (some l) m = none := by
  intro m
  induction m with
  | nil => intro l h1 h2; exact absurd h2 (by rw [List.length_nil]; omega)
  | cons a m ih =>
    intro l h1 h2
    rw [List.length_cons] at h2
    show bputs N (bput N (some l) a) m = _
    by_cases h : l.length < N
    · rw [bput_ok h]
      exact ih (l ++ [a]) (by rw [List.length_append, List.length_singleton]; omega) (by rw [List.length_append, List.length_singleton]; omega)
    · have e : bput N (some l) a = none := by
        show (if l.length < N then some (l ++ [a]) else none) = none
        rw [if_neg h]
      rw [e, bputs_none]
theorem getD_appl {l m : List Nat} {i : Nat} (h : i < l.length) : (l ++ m).getD i 0 = l.getD i 0 := by
  rw [List.getD_eq_getElem?_getD, List.getD_eq_getElem?_getD, List.getElem?_append_left h]
theorem getD_appr {l m : List Nat} {i : Nat} (h : l.length ≤ i) : (l ++ m).getD i 0 = m.getD (i - l.length) 0 := by
  rw [List.getD_eq_getElem?_getD, List.getD_eq_getElem?_getD, List.getElem?_append_right h]
theorem RowR.cpy {N : Nat} {f g : Nat → Int32} {u a c : Nat} {sp : Int32} {b : Option (List Nat)} {m : List Nat} (r : RowR N g u sp b) (hc : m.length = c) (hu : u + c ≤ N) (hf : ∀ i, i < c → m.getD i 0 < 256 ∧ f (a + i) = sb_b (m.getD i 0)) : RowR N (va_cpy f g a u c) (u + c) sp (bputs N b m) := by
  refine ⟨hu, ?_⟩
  cases b with
  | none =>
    rw [bputs_none]
    exact r.2
  | some l =>
    obtain ⟨-, hs, rfl, hl⟩ := r
    rw [bputs_len m l (by omega)]
    refine ⟨hs, by rw [List.length_append]; omega, fun i hi => ?_⟩
    rw [List.length_append] at hi
    unfold va_cpy
    by_cases q : i < l.length
    · rw [if_neg (by omega), getD_appl q]
      exact hl i q
    · rw [if_pos ⟨by omega, by omega⟩, getD_appr (by omega)]
      exact hf (i - l.length) (by omega)
theorem RowR.cover {N : Nat} {g : Nat → Int32} {u : Nat} {sp : Int32} {b : Option (List Nat)} {m : List Nat} (r : RowR N g u sp b) (hu : N < u + m.length) : RowR N g u 1 (bputs N b m) := by
  refine ⟨r.1, ?_⟩
  cases b with
  | none => rw [bputs_none]
  | some l =>
    have hl := r.2.2.1
    rw [bputs_over m l (by have := r.1; omega) (by omega)]
theorem w_putCellsL {d n s : Nat} {h : Nat → aE} {k N : Nat} {b : Option (List Nat)} {ho : Int64} {hd : Int32} {q M x y : Nat} {f : Nat → Int32} {lq : List Nat} (hn : k + 1 < n) (r : RowIs h k N b ho hd) (hN : N < 2 ^ 31) (hq : q < n) (hqk : q ≠ k + 1) (hqk0 : q ≠ k) (F : h q = .inl (0, M, .inl f)) (hxy : x ≤ y) (hyM : y ≤ M) (hM : M < 2 ^ 30) (hf : ∀ i, x ≤ i → i < y → lq.getD i 0 < 256 ∧ f i = sb_b (lq.getD i 0)) {Ψ : Option Value → aH → Prop} (kk : ∀ h', Fr h h' (fun j => j = k ∨ j = k + 1) → RowIs h' k N (bputs N b (sliceL lq x y)) ho hd → Ψ none (n, s, h')) : WO (mM (d + 1)) 89 [.ref k, .ref q, .int (nI x), .int (nI y)] (n, s, h) Ψ := by
  obtain ⟨g, u, sp, r1, r2⟩ := r
  refine w_putCells hn r1 r2.1 hN hq hqk hqk0 F hxy hyM hM (fun h' fr a1 a2 a3 => kk h' fr ?_)
  have el := sliceL_len lq x y
  rcases Nat.eq_or_lt_of_le hxy with e | e
  · refine ⟨g, u, sp, a1 e, ?_⟩
    rw [show sliceL lq x y = [] from List.eq_nil_of_length_eq_zero (by rw [el]; omega)]
    exact r2
  · rcases Nat.lt_or_ge N (u + (y - x)) with z | z
    · exact ⟨g, u, 1, a2 e z, r2.cover (by rw [el]; exact z)⟩
    · refine ⟨_, _, sp, a3 e z, r2.cpy el z (fun i hi => ?_)⟩
      rw [sliceL_get hi]
      exact hf (x + i) (by omega) (by omega)
set_option maxRecDepth 20000 in
theorem w_putRowL {d n s : Nat} {h : Nat → aE} {k N : Nat} {b : Option (List Nat)} {ho : Int64} {hd : Int32} {q M x y : Nat} {lq : List Nat} {qo : Int64} {qd : Int32} (hn : k + 1 < n) (r : RowIs h k N b ho hd) (hN : N < 2 ^ 31) (hq : q + 1 < n) (h1 : q + 1 ≠ k + 1) (h2 : q + 1 ≠ k) (rq : RowIs h q M (some lq) qo qd) (hxy : x ≤ y) (hy : y ≤ lq.length) (hM : M < 2 ^ 30) {Ψ : Option Value → aH → Prop} (kk : ∀ h', Fr h h' (fun j => j = k ∨ j = k + 1) → RowIs h' k N (bputs N b (sliceL lq x y)) ho hd → Ψ none (n, s, h')) : WO (mM (d + 2)) 88 [.ref k, .ref q, .int (nI x), .int (nI y)] (n, s, h) Ψ := by
  refine WO.of (Nat.le_of_ble_eq_true rfl) ?_
  obtain ⟨f, rA, hle, hf⟩ := rq.at_
  have F_h_q := rA.1
  show WX (lk tX7_putRow) (mM (d + 1)) Ψ 0 [(0, .ref k), (1, .ref q), (2, .int (nI x)), (3, .int (nI y))] [] (n, s, h)
  refine WX.s1 rfl rfl ?_
  refine WX.s1 rfl rfl ?_
  refine WX.get1 (fs := [.ref (q + 1), .int (nI lq.length), .int 0, .long qo, .int qd]) rfl (by omega) (F_h_q) rfl ?_
  refine WX.s1 rfl rfl ?_
  refine WX.s1 rfl rfl ?_
  refine WX.s1 rfl rfl ?_
  refine WX.get1 (fs := [.ref (q + 1), .int (nI lq.length), .int 0, .long qo, .int qd]) rfl (by omega) (F_h_q) rfl ?_
  refine WX.s1 (S' := [.int (if (nI lq.length) < (nI y) then (nI lq.length) else (nI y)), .int (nI x), .ref (q + 1), .ref k]) rfl rfl ?_
  have emin : (if nI lq.length < nI y then nI lq.length else nI y) = nI y := if_neg (nI_nlt hy (by omega))
  show WX _ _ _ 14 _ [.int (if nI lq.length < nI y then nI lq.length else nI y), .int (nI x), .ref (q + 1), .ref k] _
  rw [emin]
  refine WX.callC (vs := [.ref k, .ref (q + 1), .int (nI x), .int (nI y)]) rfl rfl rfl (Nat.le_of_ble_eq_true rfl) (r.rcv (by omega)) ?_
  refine w_putCellsL hn r hN hq h1 h2 rA.2 hxy (by omega) hM (fun i _ hi => hf i (by omega)) (fun h2 fr2 r2 => ?_)
  exact WX.ret0 rfl (kk h2 fr2 r2)
set_option maxRecDepth 20000 in
theorem x_turnL {d n s : Nat} {h : Nat → aE} {ou ne sta dra : Nat} {id : Int64} {way least : Int32} {l lo : List Nat} {oo : Int64} {od : Int32} (hn : 190 ≤ n) (hou : ou = 3 ∨ ou = 5) (hlo : lo.length ≤ 12000) (F_h_0 : h 0 = .inr (10, [.ref 1, .ref ou, .ref ne, .ref 7, .long id, .ref sta, .ref dra, .ref 67, .ref 81, .ref 189, .int way, .int least])) (P_h_in : RowIs h 1 8000 (some l) 0 0) (P_h_ou : RowIs h ou 12000 (some lo) oo od) {Ψ : Option Value → aH → Prop} (k0 : 8000 < lo.length → Ψ (some (.int 0)) (n, s, h)) (k1 : ∀ h', lo.length ≤ 8000 → Fr h h' (fun j => j = 1 ∨ j = 2) → RowIs h' 1 8000 (some lo) 0 0 → Ψ (some (.int 1)) (n, s, h')) : WO (mM (d + 3)) 127 [.ref 0] (n, s, h) Ψ := by
  refine WO.of (Nat.le_of_ble_eq_true rfl) ?_
  have FR_h : Fr h h (fun j => j = 1 ∨ j = 2) := Fr.rf
  obtain ⟨g, rA, -⟩ := P_h_ou.at_
  have F_h_ou := rA.1
  show WX (lk tX11_turn) (mM (d + 2)) Ψ 0 [(0, .ref 0)] [] (n, s, h)
  refine WX.s1 rfl rfl ?_
  refine WX.get1 (fs := [.ref 1, .ref ou, .ref ne, .ref 7, .long id, .ref sta, .ref dra, .ref 67, .ref 81, .ref 189, .int way, .int least]) rfl (ltN hn (by decide)) (F_h_0) rfl ?_
  refine WX.get1 (fs := [.ref (ou + 1), .int (nI lo.length), .int 0, .long oo, .int od]) rfl (by omega) (F_h_ou) rfl ?_
  refine WX.s1 rfl rfl ?_
  refine WX.icmp rfl (fun c_10 => ?_) (fun c_10 => ?_)
  · skip
    have hle : lo.length ≤ 8000 := (nI_leI (b := 8000) (by omega) (by decide)).mp c_10
    refine WX.s1 rfl rfl ?_
    refine WX.get1 (fs := [.ref 1, .ref ou, .ref ne, .ref 7, .long id, .ref sta, .ref dra, .ref 67, .ref 81, .ref 189, .int way, .int least]) rfl (ltN hn (by decide)) (F_h_0) rfl ?_
    refine WX.callC (vs := [.ref 1]) rfl rfl rfl (Nat.le_of_ble_eq_true rfl) (P_h_in.rcv (ltN hn (by decide))) ?_
    refine w_dropB (ltN hn (by decide)) P_h_in (fun h19 fr P_h19_in => ?_)
    have F_h19_0 : h19 0 = .inr (10, [.ref 1, .ref ou, .ref ne, .ref 7, .long id, .ref sta, .ref dra, .ref 67, .ref 81, .ref 189, .int way, .int least]) := (fr _ (by omega)).trans F_h_0
    have F_h19_ou : h19 ou = .inr (7, [.ref (ou + 1), .int (nI lo.length), .int 0, .long oo, .int od]) := (fr _ (by omega)).trans F_h_ou
    have P_h19_ou : RowIs h19 ou 12000 (some lo) oo od := P_h_ou.zfr fr (by omega) (by omega)
    have FR_h19 : Fr h h19 (fun j => j = 1 ∨ j = 2) := FR_h.zsub fr (fun j hj => by omega)
    show WX _ _ _ 22 [(0, .ref 0)] [] (n, s, h19)
    refine WX.s1 rfl rfl ?_
    refine WX.get1 (fs := [.ref 1, .ref ou, .ref ne, .ref 7, .long id, .ref sta, .ref dra, .ref 67, .ref 81, .ref 189, .int way, .int least]) rfl (ltN hn (by decide)) (F_h19_0) rfl ?_
    refine WX.s1 rfl rfl ?_
    refine WX.get1 (fs := [.ref 1, .ref ou, .ref ne, .ref 7, .long id, .ref sta, .ref dra, .ref 67, .ref 81, .ref 189, .int way, .int least]) rfl (ltN hn (by decide)) (F_h19_0) rfl ?_
    refine WX.s1 rfl rfl ?_
    refine WX.s1 rfl rfl ?_
    refine WX.get1 (fs := [.ref 1, .ref ou, .ref ne, .ref 7, .long id, .ref sta, .ref dra, .ref 67, .ref 81, .ref 189, .int way, .int least]) rfl (ltN hn (by decide)) (F_h19_0) rfl ?_
    refine WX.get1 (fs := [.ref (ou + 1), .int (nI lo.length), .int 0, .long oo, .int od]) rfl (by omega) (F_h19_ou) rfl ?_
    refine WX.callC (vs := [.ref 1, .ref ou, .int 0, .int (nI lo.length)]) rfl rfl rfl (Nat.le_of_ble_eq_true rfl) (P_h19_in.rcv (ltN hn (by decide))) ?_
    refine w_putRowL (ltN hn (by decide)) P_h19_in (by decide) (by omega) (by omega) (by omega) P_h19_ou (x := 0) (y := lo.length) (Nat.zero_le _) (Nat.le_refl _) (by decide) (fun h38 fr P_h38_in => ?_)
    have F_h38_0 : h38 0 = .inr (10, [.ref 1, .ref ou, .ref ne, .ref 7, .long id, .ref sta, .ref dra, .ref 67, .ref 81, .ref 189, .int way, .int least]) := (fr _ (by omega)).trans F_h19_0
    have FR_h38 : Fr h h38 (fun j => j = 1 ∨ j = 2) := FR_h19.zsub fr (fun j hj => by omega)
    show WX _ _ _ 41 [(0, .ref 0)] [] (n, s, h38)
    have P2 := P_h38_in
    rw [sliceL_all, bputs_len lo [] (by rw [List.length_nil]; omega), List.nil_append] at P2
    refine WX.s1 rfl rfl ?_
    exact WX.ret3 rfl (Or.inr rfl) (k1 h38 hle FR_h38 P2)
  · skip
    refine WX.s1 rfl rfl ?_
    exact WX.ret3 rfl (Or.inl rfl) (k0 (Nat.lt_of_not_le (fun z => c_10 (nI_le (b := 8000) z (by decide)))))
def OutIs (I : Nat → Int32) (A : Nat → Nat → Int32) (l : List Nat) : Prop := I 3 = nI l.length ∧ ∀ i, i < l.length → A 2 i = nI (l.getD i 0)
set_option maxRecDepth 20000 in
theorem m_turnL {d n s : Nat} {h : Nat → aE} {m : Nat} {I : Nat → Int32} {AR : Nat → Nat → Int32} {LN : Nat → Int64} {lo : List Nat} (hm : m + 43 < n) (M_h : MAt h m I AR LN) (hF : OutIs I AR lo) (hlo : lo.length ≤ 12000)  {Ψ : Option Value → aH → Prop} (k0 : 8000 < lo.length → Ψ (some (.int 0)) (n, s, h)) (k1 : ∀ h' I' A', lo.length ≤ 8000 → Fr h h' (inM m) → MAt h' m I' A' LN → Fi I I' (fun f => f = 1) → Fa AR A' 1 → InIs I' A' lo → Ψ (some (.int 1)) (n, s, h')) : WO (mM (d + 1)) 145 [.ref m] (n, s, h) Ψ := by
  refine WO.of (Nat.le_of_ble_eq_true rfl) ?_
  have FR_h : Fr h h (inM m) := Fr.rf
  have FI_I : Fi I I (fun f => f = 1) := Fi.rf
  have K_I_3 : I 3 = nI lo.length := hF.1
  show WX (lk tX12_turn) (mM d) Ψ 0 [(0, .ref m)] [] (n, s, h)
  refine WX.s1 rfl rfl ?_
  refine WX.mgetK (x := (nI lo.length)) rfl hm M_h rfl K_I_3 ?_
  refine WX.s1 rfl rfl ?_
  refine WX.icmp rfl (fun c_7 => ?_) (fun c_7 => ?_)
  · skip
    have hle : lo.length ≤ 8000 := (nI_leI (b := 8000) (by omega) (by decide)).mp c_7
    refine WX.s1 rfl rfl ?_
    refine WX.s1 (L' := [(0, .ref m), (1, .int 0)]) rfl rfl ?_
    have lp : ∀ (t i : Nat) (hL : Nat → aE) (AL : Nat → Nat → Int32), i + t = lo.length → Fr h hL (inM m) → MAt hL m I AL LN → Fa AR AL 1 → (∀ j, j < i → AL 1 j = nI (lo.getD j 0)) → WX (lk tX12_turn) (mM d) Ψ 14 [(0, .ref m), (1, .int (nI i))] [] (n, s, hL) := by
      clear M_h FR_h
      intro t
      induction t with
      | zero =>
        intro i hL AL ht FR_hL M_hL FA_AL hInv
        refine WX.s1 rfl rfl ?_
        refine WX.s1 rfl rfl ?_
        refine WX.mgetK (x := (nI lo.length)) rfl hm M_hL rfl K_I_3 ?_
        refine WX.icmp rfl (fun c_19 => ?_) (fun c_19 => absurd (nI_le (by omega) (by omega)) c_19)
        refine WX.s1 rfl rfl ?_
        refine WX.s1 rfl rfl ?_
        refine WX.mgetK (x := (nI lo.length)) rfl hm M_hL rfl K_I_3 ?_
        refine WX.mput rfl hm M_hL (rfl) (by decide) (fun _ => rfl) (fun h45n1 I45n1 e_I45n1 M_h45n1 frh45n1 => ?_)
        have FR_h45n1 := FR_hL.ztr frh45n1
        have FI_I45n1 : Fi I I45n1 (fun f => f = 1) := FI_I.zup e_I45n1 (by first | exact rfl | decide | omega)
        have K_I45n1_3 : I45n1 3 = (nI lo.length) := by rw [e_I45n1]; exact (pk_un (by decide)).trans K_I_3
        have K_I45n1_1 : I45n1 1 = (nI lo.length) := by rw [e_I45n1]; exact pk_us
        clear M_hL FR_hL FI_I e_I45n1 frh45n1 K_I_3
        refine WX.s1 rfl rfl ?_
        exact WX.ret3 rfl (Or.inr rfl) (k1 h45n1 I45n1 AL hle FR_h45n1 M_h45n1 FI_I45n1 FA_AL ⟨K_I45n1_1, fun j hj => hInv j (by omega)⟩)
      | succ t ih =>
        intro i hL AL ht FR_hL M_hL FA_AL hInv
        refine WX.s1 rfl rfl ?_
        refine WX.s1 rfl rfl ?_
        refine WX.mgetK (x := (nI lo.length)) rfl hm M_hL rfl K_I_3 ?_
        refine WX.icmp rfl (fun c_19 => absurd c_19 (nI_ge (by omega) (by omega))) (fun c_19 => ?_)
        refine WX.s1 rfl rfl ?_
        refine WX.mget rfl hm M_hL rfl ?_
        refine WX.s1 rfl rfl ?_
        refine WX.s1 rfl rfl ?_
        refine WX.mget rfl hm M_hL rfl ?_
        refine WX.s1 rfl rfl ?_
        refine WX.mald (c := 2) rfl hm M_hL (by decide) (by decide) (by decide) (by decide) (vp_in_nI (N := 12000) (by omega) (by decide)) ?_
        refine WX.mast (c := 1) rfl hm M_hL (by decide) (by decide) (by decide) (by decide) (vp_in_nI (N := 8000) (by omega) (by decide)) (fun h33n2 A33n2 e_A33n2 M_h33n2 frh33n2 => ?_)
        try dsimp only at e_A33n2
        have FR_h33n2 := FR_hL.ztr frh33n2
        clear M_hL FR_hL frh33n2
        refine WX.s1 (L' := [(0, .ref m), (1, .int ((nI i) + 1))]) rfl rfl ?_
        refine WX.s1 rfl rfl ?_
        rw [nI_1 i]
        rw [nI_clamp (by omega), FA_AL 2 (by decide), hF.2 i (by omega)] at e_A33n2
        refine ih (i + 1) h33n2 A33n2 (by omega) FR_h33n2 M_h33n2 (FA_AL.ast e_A33n2) (fun j hj => ?_)
        rw [e_A33n2, upA_same]
        by_cases q : j = i
        · rw [q, pk_us]
        · rw [pk_un q]; exact hInv j (by omega)
    exact lp lo.length 0 h AR (by omega) FR_h M_h Fa.rf (fun j hj => absurd hj (Nat.not_lt_zero j))
  · skip
    refine WX.s1 rfl rfl ?_
    exact WX.ret3 rfl (Or.inl rfl) (k0 (Nat.lt_of_not_le (fun z => c_7 (nI_le (b := 8000) z (by decide)))))
