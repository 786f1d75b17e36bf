/-! a column: the order of the least cost, forming a share, one symbol alone -/
def RowE (h : Nat → aE) (k N : Nat) : Prop := ∃ b ho hd, RowIs h k N b ho hd
theorem RowE.zfr {h h1 : Nat → aE} {A : Nat → Prop} {k N : Nat} (r : RowE h k N) (f : Fr h h1 A) (h0 : ¬ A k) (h2 : ¬ A (k + 1)) : RowE h1 k N := by
  obtain ⟨b, ho, hd, r⟩ := r
  exact ⟨b, ho, hd, r.zfr f h0 h2⟩
theorem RowE.rcv {n s : Nat} {h : Nat → aE} {k N : Nat} {vs : List Value} (r : RowE h k N) (hk : k < n) : rcv 8 (.ref k :: vs) (n, s, h) = true := by
  obtain ⟨b, ho, hd, r⟩ := r
  exact r.rcv hk
theorem RowN.toE {h : Nat → aE} {k N c : Nat} (r : RowN h k N c) : RowE h k N := by
  obtain ⟨l, ho, hd, r, -⟩ := r
  exact ⟨some l, ho, hd, r⟩
theorem RowIs.toE {h : Nat → aE} {k N : Nat} {b : Option (List Nat)} {ho : Int64} {hd : Int32} (r : RowIs h k N b ho hd) : RowE h k N := ⟨b, ho, hd, r⟩
theorem w_dropE {d n s : Nat} {h : Nat → aE} {k N : Nat} (hn : k + 1 < n) (r : RowE h k N) {Ψ : Option Value → aH → Prop} (kk : ∀ h', Fr h h' (fun j => j = k) → RowIs h' k N (some []) 0 0 → Ψ none (n, s, h')) : WO (mM (d + 1)) 85 [.ref k] (n, s, h) Ψ := by
  obtain ⟨b, ho, hd, r⟩ := r
  exact w_dropB hn r kk
theorem xt_tellL {d n s : Nat} {h : Nat → aE} {k l M o r N : Nat} {u : Nat → Nat} (hk : k + 6 < n) (hr : r + 1 < n) (hrk : r + 1 < k ∨ k + 6 < r) (hN : N < 2 ^ 31) (hl : l < 64) (ho5 : 5 ≤ o) (ho : o ≤ 9) (hS : mSum u (l + 1) = 2 ^ o) (hb : ((shB u o (0, 0)).1 + 7) / 8 ≤ N) (hR0 : RowIs h r N (some []) 0 0) (P : ShP h k l M o u) {Ψ : Option Value → aH → Prop} (kk : ∀ h', Fr h h' (fun j => j = r ∨ j = r + 1) → RowIs h' r N (some (leBy (shB u o (0, 0)).2 (((shB u o (0, 0)).1 + 7) / 8))) 0 0 → Ψ none (n, s, h')) : WO (mM (d + 3)) 113 [.ref k, .ref r] (n, s, h) Ψ :=
  xt_tell hk hr hrk hN hl ho5 ho hS hR0 P (fun h' fr R => kk h' fr (by rw [bputs_len _ _ (by rw [leBy_len]; exact (Nat.zero_add _).symm ▸ hb), List.nil_append] at R; exact R))
theorem RowN.use {h : Nat → aE} {k N c : Nat} (r : RowN h k N c) : ∃ ho hd, h k = .inr (7, [.ref (k + 1), .int (nI c), .int 0, .long ho, .int hd]) := by
  obtain ⟨l, ho, hd, r, rfl⟩ := r
  obtain ⟨g, r1, -⟩ := r.at_
  exact ⟨ho, hd, r1.1⟩
theorem xt_tellN {d n s : Nat} {h : Nat → aE} {k l M o r N : Nat} {u : Nat → Nat} (hk : k + 6 < n) (hr : r + 1 < n) (hrk : r + 1 < k ∨ k + 6 < r) (hN : N < 2 ^ 31) (hl : l < 64) (ho5 : 5 ≤ o) (ho : o ≤ 9) (hS : mSum u (l + 1) = 2 ^ o) (hb : ((shB u o (0, 0)).1 + 7) / 8 ≤ N) (hR0 : RowIs h r N (some []) 0 0) (P : ShP h k l M o u) {Ψ : Option Value → aH → Prop} (kk : ∀ h', Fr h h' (fun j => j = r ∨ j = r + 1) → RowN h' r N (((shB u o (0, 0)).1 + 7) / 8) → Ψ none (n, s, h')) : WO (mM (d + 3)) 113 [.ref k, .ref r] (n, s, h) Ψ :=
  xt_tellL hk hr hrk hN hl ho5 ho hS hb hR0 P (fun h' fr R => kk h' fr ⟨_, 0, 0, R, leBy_len _ _⟩)
def aloU (x s : Nat) : Nat := if s = x then 2 else 1
theorem alo_sum {x : Nat} : ∀ N, mSum (aloU x) N = if x < N then 1 else 0 := by
  intro N
  induction N with
  | zero => rfl
  | succ N ih =>
    show mSum (aloU x) N + massU (aloU x N) = _
    rw [ih]
    unfold aloU
    by_cases h : N = x
    · rw [if_pos h, if_neg (by omega), if_pos (by omega)]; rfl
    · rw [if_neg h]
      by_cases h2 : x < N
      · rw [if_pos h2, if_pos (by omega)]; rfl
      · rw [if_neg h2, if_neg (by omega)]; rfl
theorem nI_min {a b : Nat} (ha : a < 2 ^ 31) (hb : b < 2 ^ 31) : (if nI b < nI a then nI b else nI a) = nI (min a b) := by
  by_cases h : b < a
  · rw [if_pos ((nI_ltI hb ha).mpr h), Nat.min_eq_right (by omega)]
  · rw [if_neg (fun z => h ((nI_ltI hb ha).mp z)), Nat.min_eq_left (by omega)]
theorem shC_ge2 {ss : List Nat} {o : Nat} (hok : SyOk ss) (ho5 : 5 ≤ o) (ho : o ≤ 9) (hd : (cdF ss).2 ≤ 2 ^ o) : 8 * (((shB (wU (cdF ss).1 o 64) o (0, 0)).1 + 7) / 8) + o ≤ shC ss o := by
  have h1 := rcF_ge (Or.inr ho5) ho (wU_sh hok hd).1 (sy_ne hok) (wU_m hok hd)
  unfold shC
  omega
theorem shC_ge {ss : List Nat} {o : Nat} (hok : SyOk ss) (ho5 : 5 ≤ o) (ho : o ≤ 9) (hd : (cdF ss).2 ≤ 2 ^ o) : 16 + o ≤ shC ss o := by
  have h1 := shC_ge2 hok ho5 ho hd
  have h2 := (shB_le ho5 ho (wU_sh hok hd).1 (0, 0)).1
  have h3 : 9 ≤ (shB (wU (cdF ss).1 o 64) o (0, 0)).1 := h2
  omega
theorem rc_le {u : Nat → Nat} {N o : Nat} : ∀ {ss : List Nat} {c p : Nat}, RowC u N o ss c p → c ≤ o * ss.length := by
  intro ss
  induction ss with
  | nil => intro c p h; exact h.elim
  | cons a r ih =>
    intro c p h
    cases r with
    | nil => rw [h.2]; show o ≤ o * 1; omega
    | cons t r =>
      obtain ⟨c2, p2, W, h1, h2, h3⟩ := h
      have i := ih h1
      have w := (nx_lt h2).2
      have e : o * (a :: t :: r).length = o * (t :: r).length + o := by rw [List.length_cons (a := a), Nat.mul_add, Nat.mul_one]
      omega
set_option maxRecDepth 20000 in
theorem x_orderBelow {d n s : Nat} {h : Nat → aE} {c ba wi cho l M G : Nat} {mo bi ob sta ad : Int32} {ss : List Nat} {yA cA : Nat → Int32} {B : Nat}  (hc : c + 26 < n) (hl : l < 64) (hG6 : 6 ≤ G) (hG : G ≤ 9) (hM : M = 2 ^ G) (hok : SyOk ss) (hs : ∀ s, s ∈ ss → s ≤ l) (hy : ∀ i, i < ss.length → yA i = nI (ss.getD i 0)) (hcA : CntIs cA (cdF ss).1 (l + 1)) (hB : B ≤ 2 ^ 30) (F_h_c : h c = .inr (1, [.ref ba, .ref wi, .int (nI G), .ref (c + 1), .ref (c + 2), .ref (c + 5), .int (nI ss.length), .int (nI (cdF ss).2), .int ad, .ref (c + 6), .ref (c + 13), .ref (c + 20), .ref cho, .ref (c + 3), .int mo, .int bi, .int ob, .int sta])) (F_h__c_1_ : h (c + 1) = .inl (1, 2667, .inl yA)) (F_h__c_5_ : h (c + 5) = .inl (1, (l + 1), .inl cA)) (P_h_fresh : ShX h (c + 20) l M) (P_h_told : RowE h (c + 3) 128) {Ψ : Option Value → aH → Prop} (kk : ∀ h', Fr h h' (fun j => j = c ∨ j = c + 3 ∨ j = c + 4 ∨ (c + 20 ≤ j ∧ j ≤ c + 26)) → h' c = .inr (1, [.ref ba, .ref wi, .int (nI G), .ref (c + 1), .ref (c + 2), .ref (c + 5), .int (nI ss.length), .int (nI (cdF ss).2), .int ad, .ref (c + 6), .ref (c + 13), .ref (c + 20), .ref cho, .ref (c + 3), .int mo, .int bi, .int (nI (clF ss B (G - 4)).2), .int sta]) → ShX h' (c + 20) l M → RowE h' (c + 3) 128 → Ψ (some (.int (nI (clF ss B (G - 4)).1))) (n, s, h')) : WO (mM (d + 5)) 14 [.ref c, .int (nI B)] (n, s, h) Ψ := by
  refine WO.of (Nat.le_of_ble_eq_true rfl) ?_
  have FR_h : Fr h h (fun j => j = c ∨ j = c + 3 ∨ j = c + 4 ∨ (c + 20 ≤ j ∧ j ≤ c + 26)) := Fr.rf
  obtain ⟨hok1, hok2, hok3⟩ := id hok
  have h2G : 2 ^ G ≤ 2 ^ 9 := Nat.pow_le_pow_right (by decide) hG
  show WX (lk tX1_orderBelow) (mM (d + 4)) Ψ 0 [(0, .ref c), (1, .int (nI B))] [] (n, s, h)
  refine WX.s1 rfl rfl ?_
  refine WX.s1 (L' := [(0, .ref c), (1, .int (nI B)), (2, .int 0)]) rfl rfl ?_
  refine WX.s1 rfl rfl ?_
  refine WX.s1 rfl rfl ?_
  refine WX.put1 (fs := [.ref ba, .ref wi, .int (nI G), .ref (c + 1), .ref (c + 2), .ref (c + 5), .int (nI ss.length), .int (nI (cdF ss).2), .int ad, .ref (c + 6), .ref (c + 13), .ref (c + 20), .ref cho, .ref (c + 3), .int mo, .int bi, .int ob, .int sta]) (fs' := [.ref ba, .ref wi, .int (nI G), .ref (c + 1), .ref (c + 2), .ref (c + 5), .int (nI ss.length), .int (nI (cdF ss).2), .int ad, .ref (c + 6), .ref (c + 13), .ref (c + 20), .ref cho, .ref (c + 3), .int mo, .int bi, .int (nI B), .int sta]) rfl (by omega) (F_h_c) (Nat.le_of_ble_eq_true rfl) (rfl) rfl (fun h4 e_h4 => ?_)
  have F_h4_c : h4 c = .inr (1, [.ref ba, .ref wi, .int (nI G), .ref (c + 1), .ref (c + 2), .ref (c + 5), .int (nI ss.length), .int (nI (cdF ss).2), .int ad, .ref (c + 6), .ref (c + 13), .ref (c + 20), .ref cho, .ref (c + 3), .int mo, .int bi, .int (nI B), .int sta]) := by rw [e_h4]; exact va_up_eq
  have F_h4__c_1_ : h4 (c + 1) = .inl (1, 2667, .inl yA) := by rw [e_h4, va_up_neq (nek0 (a := 1) (by decide))]; exact F_h__c_1_
  have F_h4__c_5_ : h4 (c + 5) = .inl (1, (l + 1), .inl cA) := by rw [e_h4, va_up_neq (nek0 (a := 5) (by decide))]; exact F_h__c_5_
  have P_h4_fresh : ShX h4 (c + 20) l M := P_h_fresh.zfr (Fr.of e_h4) (fun j h1 h2 => by omega)
  have P_h4_told : RowE h4 (c + 3) 128 := P_h_told.zfr (Fr.of e_h4) (nek0 (a := 3) (by decide)) (nek0 (a := 4) (by decide))
  have FR_h4 : Fr h h4 (fun j => j = c ∨ j = c + 3 ∨ j = c + 4 ∨ (c + 20 ≤ j ∧ j ≤ c + 26)) := FR_h.zup e_h4 (by first | exact rfl | exact Or.inl rfl | exact Or.inr rfl | exact ⟨by decide, by decide⟩ | decide | omega)
  clear F_h_c F_h__c_1_ F_h__c_5_ P_h_fresh P_h_told FR_h e_h4
  refine WX.s1 rfl rfl ?_
  refine WX.s1 (L' := [(0, .ref c), (1, .int (nI B)), (2, .int 0), (3, .int 5)]) rfl rfl ?_
  have lp : ∀ (t k : Nat) (hL : Nat → aE), k + t = G - 4 → (clF ss B k).1 < 5 + k → (clF ss B k).2 ≤ 2 ^ 30 → Fr h hL (fun j => j = c ∨ j = c + 3 ∨ j = c + 4 ∨ (c + 20 ≤ j ∧ j ≤ c + 26)) → hL c = .inr (1, [.ref ba, .ref wi, .int (nI G), .ref (c + 1), .ref (c + 2), .ref (c + 5), .int (nI ss.length), .int (nI (cdF ss).2), .int ad, .ref (c + 6), .ref (c + 13), .ref (c + 20), .ref cho, .ref (c + 3), .int mo, .int bi, .int (nI (clF ss B k).2), .int sta]) → ShX hL (c + 20) l M → RowE hL (c + 3) 128 → WX (lk tX1_orderBelow) (mM (d + 4)) Ψ 9 [(0, .ref c), (1, .int (nI B)), (2, .int (nI (clF ss B k).1)), (3, .int (nI (5 + k)))] [] (n, s, hL) := by
    have F1 : h (c + 1) = _ := (FR_h4 (c + 1) (by omega)).symm.trans F_h4__c_1_
    have F5 : h (c + 5) = _ := (FR_h4 (c + 5) (by omega)).symm.trans F_h4__c_5_
    clear FR_h4 F_h4_c F_h4__c_1_ F_h4__c_5_ P_h4_fresh P_h4_told
    intro t
    induction t with
    | zero =>
      intro k hL hk hb1k hb2k FR_hL F_hL_c P_hL_fresh P_hL_told
      have F_hL__c_1_ : hL (c + 1) = .inl (1, 2667, .inl yA) := (FR_hL (c + 1) (by omega)).trans F1
      have F_hL__c_5_ : hL (c + 5) = .inl (1, (l + 1), .inl cA) := (FR_hL (c + 5) (by omega)).trans F5
      obtain rfl : k = G - 4 := by omega
      refine WX.s1 rfl rfl ?_
      refine WX.s1 rfl rfl ?_
      refine WX.get1 (fs := [.ref ba, .ref wi, .int (nI G), .ref (c + 1), .ref (c + 2), .ref (c + 5), .int (nI ss.length), .int (nI (cdF ss).2), .int ad, .ref (c + 6), .ref (c + 13), .ref (c + 20), .ref cho, .ref (c + 3), .int mo, .int bi, .int (nI (clF ss B (G - 4)).2), .int sta]) rfl (by omega) (F_hL_c) rfl ?_
      refine WX.icmp rfl (fun c_14 => ?_) (fun c_14 => absurd ((nI_ltI (a := G) (b := 5 + (G - 4)) (by omega) (by omega)).mpr (by omega)) c_14)
      clear c_14
      refine WX.s1 rfl rfl ?_
      exact WX.ret1 rfl (kk hL FR_hL F_hL_c P_hL_fresh P_hL_told)
    | succ t ih =>
      intro k hL hk hb1k hb2k FR_hL F_hL_c P_hL_fresh P_hL_told
      have F_hL__c_1_ : hL (c + 1) = .inl (1, 2667, .inl yA) := (FR_hL (c + 1) (by omega)).trans F1
      have F_hL__c_5_ : hL (c + 5) = .inl (1, (l + 1), .inl cA) := (FR_hL (c + 5) (by omega)).trans F5
      have hpb : 2 ^ (5 + k) ≤ 2 ^ 9 := Nat.pow_le_pow_right (by decide) (by omega)
      have hd2 := cd_le hok.1
      refine WX.s1 rfl rfl ?_
      refine WX.s1 rfl rfl ?_
      refine WX.get1 (fs := [.ref ba, .ref wi, .int (nI G), .ref (c + 1), .ref (c + 2), .ref (c + 5), .int (nI ss.length), .int (nI (cdF ss).2), .int ad, .ref (c + 6), .ref (c + 13), .ref (c + 20), .ref cho, .ref (c + 3), .int mo, .int bi, .int (nI (clF ss B k).2), .int sta]) rfl (by omega) (F_hL_c) rfl ?_
      refine WX.icmp rfl (fun c_14 => absurd c_14 (fun zz_ => absurd ((nI_ltI (a := G) (b := 5 + k) (by omega) (by omega)).mp zz_) (Nat.not_lt.mpr (by omega)))) (fun c_14 => ?_)
      clear c_14
      refine WX.s1 rfl rfl ?_
      refine WX.s1 rfl rfl ?_
      refine WX.s1 (S' := [.int (1 <<< ((nI (5 + k)) &&& 31))]) rfl rfl ?_
      rw [sh1 (5 + k) (by omega)]
      refine WX.s1 rfl rfl ?_
      refine WX.get1 (fs := [.ref ba, .ref wi, .int (nI G), .ref (c + 1), .ref (c + 2), .ref (c + 5), .int (nI ss.length), .int (nI (cdF ss).2), .int ad, .ref (c + 6), .ref (c + 13), .ref (c + 20), .ref cho, .ref (c + 3), .int mo, .int bi, .int (nI (clF ss B k).2), .int sta]) rfl (by omega) (F_hL_c) rfl ?_
      refine WX.icmp rfl (fun c_24 => ?_) (fun c_24 => ?_)
      · skip
        have n_24 : (2 ^ (5 + k)) < ((cdF ss).2) := (nI_ltI (a := 2 ^ (5 + k)) (b := (cdF ss).2) (by omega) (by omega)).mp c_24
        refine WX.s1 (L' := [(0, .ref c), (1, .int (nI B)), (2, .int (nI (clF ss B k).1)), (3, .int ((nI (5 + k)) + 1))]) rfl rfl ?_
        rw [show ((nI (5 + k)) + 1) = nI (5 + k + 1) from nI_add (5 + k) 1]
        refine WX.s1 rfl rfl ?_
        have ec : clF ss B (k + 1) = clF ss B k := cl_skip n_24
        have h9 := ih (k + 1) hL (by omega) (by rw [ec]; omega) (by rw [ec]; exact hb2k) FR_hL (by rw [ec]; exact F_hL_c) (P_hL_fresh) (P_hL_told)
        rw [ec] at h9
        exact h9
      · skip
        have n_24 : ((cdF ss).2) ≤ (2 ^ (5 + k)) := Nat.le_of_not_lt (fun zz_ => c_24 ((nI_ltI (a := 2 ^ (5 + k)) (b := (cdF ss).2) (by omega) (by omega)).mpr zz_))
        refine WX.s1 rfl rfl ?_
        refine WX.s1 rfl rfl ?_
        refine WX.s1 (S' := [.int (16 + (nI (5 + k)))]) rfl rfl ?_
        rw [show (16 + (nI (5 + k))) = nI (16 + (5 + k)) from nI_add 16 (5 + k)]
        refine WX.s1 rfl rfl ?_
        refine WX.get1 (fs := [.ref ba, .ref wi, .int (nI G), .ref (c + 1), .ref (c + 2), .ref (c + 5), .int (nI ss.length), .int (nI (cdF ss).2), .int ad, .ref (c + 6), .ref (c + 13), .ref (c + 20), .ref cho, .ref (c + 3), .int mo, .int bi, .int (nI (clF ss B k).2), .int sta]) rfl (by omega) (F_hL_c) rfl ?_
        refine WX.icmp rfl (fun c_35 => ?_) (fun c_35 => ?_)
        · skip
          have n_35 : (16 + (5 + k)) < ((clF ss B k).2) := (nI_ltI (a := 16 + (5 + k)) (b := (clF ss B k).2) (by omega) (by omega)).mp c_35
          have hd : (cdF ss).2 ≤ 2 ^ (5 + k) := n_24
          obtain ⟨eW, eS, eN⟩ := wU_l hok hl hs hd
          obtain ⟨hSm, hOw⟩ := own_l hok hl hs (Or.inr (by omega)) (by omega) hd
          have hS64 := (wU_sh hok hd).1
          obtain ⟨hb1, hb2⟩ := shB_le (by omega) (by omega) hS64 (0, 0)
          have hMo : 2 ^ (5 + k) ≤ M := by rw [hM]; exact Nat.pow_le_pow_right (by decide) (by omega)
          obtain ⟨nb, hnb⟩ : ∃ nb, nb = ((shB (wU (cdF ss).1 (5 + k) 64) (5 + k) (0, 0)).1 + 7) / 8 := ⟨_, rfl⟩
          refine WX.s1 rfl rfl ?_
          refine WX.get1 (fs := [.ref ba, .ref wi, .int (nI G), .ref (c + 1), .ref (c + 2), .ref (c + 5), .int (nI ss.length), .int (nI (cdF ss).2), .int ad, .ref (c + 6), .ref (c + 13), .ref (c + 20), .ref cho, .ref (c + 3), .int mo, .int bi, .int (nI (clF ss B k).2), .int sta]) rfl (by omega) (F_hL_c) rfl ?_
          refine WX.s1 rfl rfl ?_
          refine WX.get1 (fs := [.ref ba, .ref wi, .int (nI G), .ref (c + 1), .ref (c + 2), .ref (c + 5), .int (nI ss.length), .int (nI (cdF ss).2), .int ad, .ref (c + 6), .ref (c + 13), .ref (c + 20), .ref cho, .ref (c + 3), .int mo, .int bi, .int (nI (clF ss B k).2), .int sta]) rfl (by omega) (F_hL_c) rfl ?_
          refine WX.s1 rfl rfl ?_
          refine WX.callC (vs := [.ref (c + 20), .ref (c + 5), .int (nI (5 + k))]) rfl rfl rfl (Nat.le_of_ble_eq_true rfl) (P_hL_fresh.rcv (by omega)) ?_
          refine xt_weigh (by omega) (by omega) (by omega) hl (by omega) hcA (by omega) (by omega) (by omega) P_hL_fresh F_hL__c_5_ (fun h50 fr50 P_h50_fresh => ?_)
          have F_h50_c : h50 c = .inr (1, [.ref ba, .ref wi, .int (nI G), .ref (c + 1), .ref (c + 2), .ref (c + 5), .int (nI ss.length), .int (nI (cdF ss).2), .int ad, .ref (c + 6), .ref (c + 13), .ref (c + 20), .ref cho, .ref (c + 3), .int mo, .int bi, .int (nI (clF ss B k).2), .int sta]) := (fr50 _ (by omega)).trans F_hL_c
          have F_h50__c_1_ : h50 (c + 1) = .inl (1, 2667, .inl yA) := (fr50 _ (by omega)).trans F_hL__c_1_
          have F_h50__c_5_ : h50 (c + 5) = .inl (1, (l + 1), .inl cA) := (fr50 _ (by omega)).trans F_hL__c_5_
          have P_h50_told : RowE h50 (c + 3) 128 := P_hL_told.zfr fr50 (by omega) (by omega)
          have FR_h50 : Fr h h50 (fun j => j = c ∨ j = c + 3 ∨ j = c + 4 ∨ (c + 20 ≤ j ∧ j ≤ c + 26)) := FR_hL.zsub fr50 (fun j hj => by first | exact hj | exact Or.inl hj | exact Or.inr hj | omega)
          show WX _ _ _ 53 [(0, .ref c), (1, .int (nI B)), (2, .int (nI (clF ss B k).1)), (3, .int (nI (5 + k)))] [] (n, s, h50)
          rw [eW] at P_h50_fresh
          refine WX.s1 rfl rfl ?_
          refine WX.get1 (fs := [.ref ba, .ref wi, .int (nI G), .ref (c + 1), .ref (c + 2), .ref (c + 5), .int (nI ss.length), .int (nI (cdF ss).2), .int ad, .ref (c + 6), .ref (c + 13), .ref (c + 20), .ref cho, .ref (c + 3), .int mo, .int bi, .int (nI (clF ss B k).2), .int sta]) rfl (by omega) (F_h50_c) rfl ?_
          refine WX.callC (vs := [.ref (c + 3)]) rfl rfl rfl (Nat.le_of_ble_eq_true rfl) (P_h50_told.rcv (by omega)) ?_
          refine w_dropE (by omega) P_h50_told (fun h57 fr57 P_h57_told => ?_)
          have F_h57_c : h57 c = .inr (1, [.ref ba, .ref wi, .int (nI G), .ref (c + 1), .ref (c + 2), .ref (c + 5), .int (nI ss.length), .int (nI (cdF ss).2), .int ad, .ref (c + 6), .ref (c + 13), .ref (c + 20), .ref cho, .ref (c + 3), .int mo, .int bi, .int (nI (clF ss B k).2), .int sta]) := (fr57 _ (by omega)).trans F_h50_c
          have F_h57__c_1_ : h57 (c + 1) = .inl (1, 2667, .inl yA) := (fr57 _ (by omega)).trans F_h50__c_1_
          have F_h57__c_5_ : h57 (c + 5) = .inl (1, (l + 1), .inl cA) := (fr57 _ (by omega)).trans F_h50__c_5_
          have P_h57_fresh : ShP h57 (c + 20) l M (5 + k) (wU (cdF ss).1 (5 + k) 64) := P_h50_fresh.zfr fr57 (fun j h1 h2 => by omega)
          have FR_h57 : Fr h h57 (fun j => j = c ∨ j = c + 3 ∨ j = c + 4 ∨ (c + 20 ≤ j ∧ j ≤ c + 26)) := FR_h50.zsub fr57 (fun j hj => by first | exact hj | exact Or.inl hj | exact Or.inr hj | omega)
          show WX _ _ _ 60 [(0, .ref c), (1, .int (nI B)), (2, .int (nI (clF ss B k).1)), (3, .int (nI (5 + k)))] [] (n, s, h57)
          refine WX.s1 rfl rfl ?_
          refine WX.get1 (fs := [.ref ba, .ref wi, .int (nI G), .ref (c + 1), .ref (c + 2), .ref (c + 5), .int (nI ss.length), .int (nI (cdF ss).2), .int ad, .ref (c + 6), .ref (c + 13), .ref (c + 20), .ref cho, .ref (c + 3), .int mo, .int bi, .int (nI (clF ss B k).2), .int sta]) rfl (by omega) (F_h57_c) rfl ?_
          refine WX.s1 rfl rfl ?_
          refine WX.get1 (fs := [.ref ba, .ref wi, .int (nI G), .ref (c + 1), .ref (c + 2), .ref (c + 5), .int (nI ss.length), .int (nI (cdF ss).2), .int ad, .ref (c + 6), .ref (c + 13), .ref (c + 20), .ref cho, .ref (c + 3), .int mo, .int bi, .int (nI (clF ss B k).2), .int sta]) rfl (by omega) (F_h57_c) rfl ?_
          refine WX.callC (vs := [.ref (c + 20), .ref (c + 3)]) rfl rfl rfl (Nat.le_of_ble_eq_true rfl) ((P_h57_fresh.toX).rcv (by omega)) ?_
          refine xt_tellN (by omega) (by omega) (by omega) (by decide) hl (by omega) (by omega) hSm (by omega) P_h57_told P_h57_fresh (fun h68 fr68 P_h68_told => ?_)
          have F_h68_c : h68 c = .inr (1, [.ref ba, .ref wi, .int (nI G), .ref (c + 1), .ref (c + 2), .ref (c + 5), .int (nI ss.length), .int (nI (cdF ss).2), .int ad, .ref (c + 6), .ref (c + 13), .ref (c + 20), .ref cho, .ref (c + 3), .int mo, .int bi, .int (nI (clF ss B k).2), .int sta]) := (fr68 _ (by omega)).trans F_h57_c
          have F_h68__c_1_ : h68 (c + 1) = .inl (1, 2667, .inl yA) := (fr68 _ (by omega)).trans F_h57__c_1_
          have F_h68__c_5_ : h68 (c + 5) = .inl (1, (l + 1), .inl cA) := (fr68 _ (by omega)).trans F_h57__c_5_
          have P_h68_fresh : ShP h68 (c + 20) l M (5 + k) (wU (cdF ss).1 (5 + k) 64) := P_h57_fresh.zfr fr68 (fun j h1 h2 => by omega)
          have FR_h68 : Fr h h68 (fun j => j = c ∨ j = c + 3 ∨ j = c + 4 ∨ (c + 20 ≤ j ∧ j ≤ c + 26)) := FR_h57.zsub fr68 (fun j hj => by first | exact hj | exact Or.inl hj | exact Or.inr hj | omega)
          show WX _ _ _ 71 [(0, .ref c), (1, .int (nI B)), (2, .int (nI (clF ss B k).1)), (3, .int (nI (5 + k)))] [] (n, s, h68)
          rw [← hnb] at P_h68_told
          obtain ⟨hoT, hdT, F_h68__c_3_⟩ := P_h68_told.use
          refine WX.s1 rfl rfl ?_
          refine WX.s1 rfl rfl ?_
          refine WX.get1 (fs := [.ref ba, .ref wi, .int (nI G), .ref (c + 1), .ref (c + 2), .ref (c + 5), .int (nI ss.length), .int (nI (cdF ss).2), .int ad, .ref (c + 6), .ref (c + 13), .ref (c + 20), .ref cho, .ref (c + 3), .int mo, .int bi, .int (nI (clF ss B k).2), .int sta]) rfl (by omega) (F_h68_c) rfl ?_
          refine WX.get1 (fs := [.ref (c + 4), .int (nI nb), .int 0, .long hoT, .int hdT]) rfl (by omega) (F_h68__c_3_) rfl ?_
          refine WX.s1 (S' := [.int (8 * (nI nb))]) rfl rfl ?_
          rw [show (8 * (nI nb)) = nI (8 * nb) from (Int32.ofNat_mul 8 nb).symm]
          refine WX.s1 rfl rfl ?_
          refine WX.s1 (S' := [.int ((nI (8 * nb)) + (nI (5 + k)))]) rfl rfl ?_
          rw [show ((nI (8 * nb)) + (nI (5 + k))) = nI (8 * nb + (5 + k)) from nI_add (8 * nb) (5 + k)]
          refine WX.s1 rfl rfl ?_
          refine WX.get1 (fs := [.ref ba, .ref wi, .int (nI G), .ref (c + 1), .ref (c + 2), .ref (c + 5), .int (nI ss.length), .int (nI (cdF ss).2), .int ad, .ref (c + 6), .ref (c + 13), .ref (c + 20), .ref cho, .ref (c + 3), .int mo, .int bi, .int (nI (clF ss B k).2), .int sta]) rfl (by omega) (F_h68_c) rfl ?_
          refine WX.icmp rfl (fun c_87 => ?_) (fun c_87 => ?_)
          · skip
            have n_87 : ((clF ss B k).2) ≤ (8 * nb + (5 + k)) := (nI_leI (a := (clF ss B k).2) (b := 8 * nb + (5 + k)) (by omega) (by omega)).mp c_87
            refine WX.s1 (L' := [(0, .ref c), (1, .int (nI B)), (2, .int (nI (clF ss B k).1)), (3, .int ((nI (5 + k)) + 1))]) rfl rfl ?_
            rw [show ((nI (5 + k)) + 1) = nI (5 + k + 1) from nI_add (5 + k) 1]
            refine WX.s1 rfl rfl ?_
            have ec : clF ss B (k + 1) = clF ss B k := cl_keep hd (by have h1 := shC_ge2 hok (show 5 ≤ 5 + k by omega) (by omega) hd; rw [← hnb] at h1; omega)
            have h9 := ih (k + 1) h68 (by omega) (by rw [ec]; omega) (by rw [ec]; exact hb2k) FR_h68 (by rw [ec]; exact F_h68_c) (P_h68_fresh.toX) (P_h68_told.toE)
            rw [ec] at h9
            exact h9
          · skip
            have n_87 : (8 * nb + (5 + k)) < ((clF ss B k).2) := Nat.lt_of_not_le (fun zz_ => c_87 ((nI_leI (a := (clF ss B k).2) (b := 8 * nb + (5 + k)) (by omega) (by omega)).mpr zz_))
            refine WX.s1 rfl rfl ?_
            refine WX.get1 (fs := [.ref ba, .ref wi, .int (nI G), .ref (c + 1), .ref (c + 2), .ref (c + 5), .int (nI ss.length), .int (nI (cdF ss).2), .int ad, .ref (c + 6), .ref (c + 13), .ref (c + 20), .ref cho, .ref (c + 3), .int mo, .int bi, .int (nI (clF ss B k).2), .int sta]) rfl (by omega) (F_h68_c) rfl ?_
            refine WX.callC (vs := [.ref (c + 20)]) rfl rfl rfl (Nat.le_of_ble_eq_true rfl) ((P_h68_fresh.toX).rcv (by omega)) ?_
            refine xt_spread (by omega) hl (Or.inr (by omega)) (by omega) hMo (by omega) hSm P_h68_fresh (fun h94 fr94 P_h94_fresh => ?_)
            have F_h94_c : h94 c = .inr (1, [.ref ba, .ref wi, .int (nI G), .ref (c + 1), .ref (c + 2), .ref (c + 5), .int (nI ss.length), .int (nI (cdF ss).2), .int ad, .ref (c + 6), .ref (c + 13), .ref (c + 20), .ref cho, .ref (c + 3), .int mo, .int bi, .int (nI (clF ss B k).2), .int sta]) := (fr94 _ (by omega)).trans F_h68_c
            have F_h94__c_1_ : h94 (c + 1) = .inl (1, 2667, .inl yA) := (fr94 _ (by omega)).trans F_h68__c_1_
            have F_h94__c_5_ : h94 (c + 5) = .inl (1, (l + 1), .inl cA) := (fr94 _ (by omega)).trans F_h68__c_5_
            have F_h94__c_3_ : h94 (c + 3) = .inr (7, [.ref (c + 4), .int (nI nb), .int 0, .long hoT, .int hdT]) := (fr94 _ (by omega)).trans F_h68__c_3_
            have P_h94_told : RowN h94 (c + 3) 128 nb := P_h68_told.zfr fr94 (by omega) (by omega)
            have FR_h94 : Fr h h94 (fun j => j = c ∨ j = c + 3 ∨ j = c + 4 ∨ (c + 20 ≤ j ∧ j ≤ c + 26)) := FR_h68.zsub fr94 (fun j hj => by first | exact hj | exact Or.inl hj | exact Or.inr hj | omega)
            show WX _ _ _ 97 [(0, .ref c), (1, .int (nI B)), (2, .int (nI (clF ss B k).1)), (3, .int (nI (5 + k)))] [] (n, s, h94)
            refine WX.s1 rfl rfl ?_
            refine WX.s1 rfl rfl ?_
            refine WX.get1 (fs := [.ref ba, .ref wi, .int (nI G), .ref (c + 1), .ref (c + 2), .ref (c + 5), .int (nI ss.length), .int (nI (cdF ss).2), .int ad, .ref (c + 6), .ref (c + 13), .ref (c + 20), .ref cho, .ref (c + 3), .int mo, .int bi, .int (nI (clF ss B k).2), .int sta]) rfl (by omega) (F_h94_c) rfl ?_
            refine WX.get1 (fs := [.ref (c + 4), .int (nI nb), .int 0, .long hoT, .int hdT]) rfl (by omega) (F_h94__c_3_) rfl ?_
            refine WX.s1 (S' := [.int (8 * (nI nb))]) rfl rfl ?_
            rw [show (8 * (nI nb)) = nI (8 * nb) from (Int32.ofNat_mul 8 nb).symm]
            refine WX.s1 rfl rfl ?_
            refine WX.get1 (fs := [.ref ba, .ref wi, .int (nI G), .ref (c + 1), .ref (c + 2), .ref (c + 5), .int (nI ss.length), .int (nI (cdF ss).2), .int ad, .ref (c + 6), .ref (c + 13), .ref (c + 20), .ref cho, .ref (c + 3), .int mo, .int bi, .int (nI (clF ss B k).2), .int sta]) rfl (by omega) (F_h94_c) rfl ?_
            refine WX.s1 rfl rfl ?_
            refine WX.get1 (fs := [.ref ba, .ref wi, .int (nI G), .ref (c + 1), .ref (c + 2), .ref (c + 5), .int (nI ss.length), .int (nI (cdF ss).2), .int ad, .ref (c + 6), .ref (c + 13), .ref (c + 20), .ref cho, .ref (c + 3), .int mo, .int bi, .int (nI (clF ss B k).2), .int sta]) rfl (by omega) (F_h94_c) rfl ?_
            refine WX.s1 rfl rfl ?_
            refine WX.get1 (fs := [.ref ba, .ref wi, .int (nI G), .ref (c + 1), .ref (c + 2), .ref (c + 5), .int (nI ss.length), .int (nI (cdF ss).2), .int ad, .ref (c + 6), .ref (c + 13), .ref (c + 20), .ref cho, .ref (c + 3), .int mo, .int bi, .int (nI (clF ss B k).2), .int sta]) rfl (by omega) (F_h94_c) rfl ?_
            refine WX.callC (vs := [.ref (c + 20), .ref (c + 1), .int (nI ss.length)]) rfl rfl rfl (Nat.le_of_ble_eq_true rfl) (((P_h94_fresh.toP).toX).rcv (by omega)) ?_
            refine xt_rowBits (by omega) hl (Or.inr (by omega)) (by omega) hMo (by omega) P_h94_fresh (by omega) (by decide) hok3 hok2 (fun i hi => ⟨hy i hi, hs _ (getD_mem hi), (wU_m hok hd _ (getD_mem hi)).2⟩) F_h94__c_1_ (fun rc p hR => ?_)
            have hrc := rcF_is (Or.inr (by omega)) (by omega) hSm hR
            have hsh : shC ss (5 + k) = 8 * nb + rc := by unfold shC; rw [← hnb, rcF_pad hOw, hrc]
            have hrb := rcF_ge (Or.inr (by omega)) (by omega) hSm (sy_ne hok) (fun s q => ⟨Nat.lt_succ_of_le (hs s q), (wU_m hok hd s q).2⟩)
            have hcb : rc ≤ 9 * 2667 := Nat.le_trans (rc_le hR) (Nat.mul_le_mul (by omega) hok3)
            show WX _ _ _ 122 [(0, .ref c), (1, .int (nI B)), (2, .int (nI (clF ss B k).1)), (3, .int (nI (5 + k)))] [.int (nI rc), .int (nI (8 * nb))] (n, s, h94)
            refine WX.s1 (S' := [.int ((nI (8 * nb)) + (nI rc))]) rfl rfl ?_
            rw [show ((nI (8 * nb)) + (nI rc)) = nI (8 * nb + rc) from nI_add (8 * nb) rc]
            refine WX.s1 (L' := [(0, .ref c), (1, .int (nI B)), (2, .int (nI (clF ss B k).1)), (3, .int (nI (5 + k))), (4, .int (nI (8 * nb + rc)))]) rfl rfl ?_
            refine WX.s1 rfl rfl ?_
            refine WX.s1 rfl rfl ?_
            refine WX.get1 (fs := [.ref ba, .ref wi, .int (nI G), .ref (c + 1), .ref (c + 2), .ref (c + 5), .int (nI ss.length), .int (nI (cdF ss).2), .int ad, .ref (c + 6), .ref (c + 13), .ref (c + 20), .ref cho, .ref (c + 3), .int mo, .int bi, .int (nI (clF ss B k).2), .int sta]) rfl (by omega) (F_h94_c) rfl ?_
            refine WX.icmp rfl (fun c_131 => ?_) (fun c_131 => ?_)
            · skip
              have n_131 : ((clF ss B k).2) ≤ (8 * nb + rc) := (nI_leI (a := (clF ss B k).2) (b := 8 * nb + rc) (by omega) (by omega)).mp c_131
              refine WX.s1 rfl rfl ?_
              refine WX.s1 (L' := [(0, .ref c), (1, .int (nI B)), (2, .int (nI (clF ss B k).1)), (3, .int (nI (5 + k))), (4, .int (nI (8 * nb + rc)))]) rfl rfl ?_
              refine WX.s1 rfl rfl ?_
              refine WX.s1 rfl rfl ?_
              refine WX.s1 rfl rfl ?_
              refine WX.get1 (fs := [.ref ba, .ref wi, .int (nI G), .ref (c + 1), .ref (c + 2), .ref (c + 5), .int (nI ss.length), .int (nI (cdF ss).2), .int ad, .ref (c + 6), .ref (c + 13), .ref (c + 20), .ref cho, .ref (c + 3), .int mo, .int bi, .int (nI (clF ss B k).2), .int sta]) rfl (by omega) (F_h94_c) rfl ?_
              refine WX.s1 (S' := [.int (if (nI (clF ss B k).2) < (nI (8 * nb + rc)) then (nI (clF ss B k).2) else (nI (8 * nb + rc))), .ref c]) rfl rfl ?_
              rw [nI_min (a := 8 * nb + rc) (b := (clF ss B k).2) (by omega) (by omega)]
              refine WX.put1 (fs := [.ref ba, .ref wi, .int (nI G), .ref (c + 1), .ref (c + 2), .ref (c + 5), .int (nI ss.length), .int (nI (cdF ss).2), .int ad, .ref (c + 6), .ref (c + 13), .ref (c + 20), .ref cho, .ref (c + 3), .int mo, .int bi, .int (nI (clF ss B k).2), .int sta]) (fs' := [.ref ba, .ref wi, .int (nI G), .ref (c + 1), .ref (c + 2), .ref (c + 5), .int (nI ss.length), .int (nI (cdF ss).2), .int ad, .ref (c + 6), .ref (c + 13), .ref (c + 20), .ref cho, .ref (c + 3), .int mo, .int bi, .int (nI (min (8 * nb + rc) (clF ss B k).2)), .int sta]) rfl (by omega) (F_h94_c) (Nat.le_of_ble_eq_true rfl) (rfl) rfl (fun h150 e_h150 => ?_)
              have F_h150_c : h150 c = .inr (1, [.ref ba, .ref wi, .int (nI G), .ref (c + 1), .ref (c + 2), .ref (c + 5), .int (nI ss.length), .int (nI (cdF ss).2), .int ad, .ref (c + 6), .ref (c + 13), .ref (c + 20), .ref cho, .ref (c + 3), .int mo, .int bi, .int (nI (min (8 * nb + rc) (clF ss B k).2)), .int sta]) := by rw [e_h150]; exact va_up_eq
              have F_h150__c_1_ : h150 (c + 1) = .inl (1, 2667, .inl yA) := by rw [e_h150, va_up_neq (nek0 (a := 1) (by decide))]; exact F_h94__c_1_
              have F_h150__c_5_ : h150 (c + 5) = .inl (1, (l + 1), .inl cA) := by rw [e_h150, va_up_neq (nek0 (a := 5) (by decide))]; exact F_h94__c_5_
              have F_h150__c_3_ : h150 (c + 3) = .inr (7, [.ref (c + 4), .int (nI nb), .int 0, .long hoT, .int hdT]) := by rw [e_h150, va_up_neq (nek0 (a := 3) (by decide))]; exact F_h94__c_3_
              have P_h150_fresh : ShT h150 (c + 20) l M (5 + k) (wU (cdF ss).1 (5 + k) 64) := P_h94_fresh.zfr (Fr.of e_h150) (fun j h1 h2 => by omega)
              have P_h150_told : RowN h150 (c + 3) 128 nb := P_h94_told.zfr (Fr.of e_h150) (nek0 (a := 3) (by decide)) (nek0 (a := 4) (by decide))
              have FR_h150 : Fr h h150 (fun j => j = c ∨ j = c + 3 ∨ j = c + 4 ∨ (c + 20 ≤ j ∧ j ≤ c + 26)) := FR_h94.zup e_h150 (by first | exact rfl | exact Or.inl rfl | exact Or.inr rfl | exact ⟨by decide, by decide⟩ | decide | omega)
              clear F_h94_c F_h94__c_1_ F_h94__c_5_ F_h94__c_3_ P_h94_fresh P_h94_told FR_h94 e_h150
              refine WX.s1 (L' := [(0, .ref c), (1, .int (nI B)), (2, .int (nI (clF ss B k).1)), (3, .int ((nI (5 + k)) + 1)), (4, .int (nI (8 * nb + rc)))]) rfl rfl ?_
              rw [show ((nI (5 + k)) + 1) = nI (5 + k + 1) from nI_add (5 + k) 1]
              refine WX.s1 rfl rfl ?_
              refine WX.keep (y := 14) [0, 1, 2, 3] (show ([0, 1, 2, 3, 4] : List Nat).Nodup by decide) rfl ?_
              have ec : clF ss B (k + 1) = clF ss B k := cl_keep hd (by rw [hsh]; exact n_131)
              rw [show min (8 * nb + rc) (clF ss B k).2 = (clF ss B k).2 by omega] at F_h150_c
              have h9 := ih (k + 1) h150 (by omega) (by rw [ec]; omega) (by rw [ec]; exact hb2k) FR_h150 (by rw [ec]; exact F_h150_c) ((P_h150_fresh.toP).toX) (P_h150_told.toE)
              rw [ec] at h9
              exact h9
            · skip
              have n_131 : (8 * nb + rc) < ((clF ss B k).2) := Nat.lt_of_not_le (fun zz_ => c_131 ((nI_leI (a := (clF ss B k).2) (b := 8 * nb + rc) (by omega) (by omega)).mpr zz_))
              refine WX.s1 rfl rfl ?_
              refine WX.s1 rfl rfl ?_
              refine WX.s1 (L' := [(0, .ref c), (1, .int (nI B)), (2, .int (nI (5 + k))), (3, .int (nI (5 + k))), (4, .int (nI (8 * nb + rc)))]) rfl rfl ?_
              refine WX.s1 rfl rfl ?_
              refine WX.s1 rfl rfl ?_
              refine WX.s1 rfl rfl ?_
              refine WX.get1 (fs := [.ref ba, .ref wi, .int (nI G), .ref (c + 1), .ref (c + 2), .ref (c + 5), .int (nI ss.length), .int (nI (cdF ss).2), .int ad, .ref (c + 6), .ref (c + 13), .ref (c + 20), .ref cho, .ref (c + 3), .int mo, .int bi, .int (nI (clF ss B k).2), .int sta]) rfl (by omega) (F_h94_c) rfl ?_
              refine WX.s1 (S' := [.int (if (nI (clF ss B k).2) < (nI (8 * nb + rc)) then (nI (clF ss B k).2) else (nI (8 * nb + rc))), .ref c]) rfl rfl ?_
              rw [nI_min (a := 8 * nb + rc) (b := (clF ss B k).2) (by omega) (by omega)]
              refine WX.put1 (fs := [.ref ba, .ref wi, .int (nI G), .ref (c + 1), .ref (c + 2), .ref (c + 5), .int (nI ss.length), .int (nI (cdF ss).2), .int ad, .ref (c + 6), .ref (c + 13), .ref (c + 20), .ref cho, .ref (c + 3), .int mo, .int bi, .int (nI (clF ss B k).2), .int sta]) (fs' := [.ref ba, .ref wi, .int (nI G), .ref (c + 1), .ref (c + 2), .ref (c + 5), .int (nI ss.length), .int (nI (cdF ss).2), .int ad, .ref (c + 6), .ref (c + 13), .ref (c + 20), .ref cho, .ref (c + 3), .int mo, .int bi, .int (nI (min (8 * nb + rc) (clF ss B k).2)), .int sta]) rfl (by omega) (F_h94_c) (Nat.le_of_ble_eq_true rfl) (rfl) rfl (fun h150 e_h150 => ?_)
              have F_h150_c : h150 c = .inr (1, [.ref ba, .ref wi, .int (nI G), .ref (c + 1), .ref (c + 2), .ref (c + 5), .int (nI ss.length), .int (nI (cdF ss).2), .int ad, .ref (c + 6), .ref (c + 13), .ref (c + 20), .ref cho, .ref (c + 3), .int mo, .int bi, .int (nI (min (8 * nb + rc) (clF ss B k).2)), .int sta]) := by rw [e_h150]; exact va_up_eq
              have F_h150__c_1_ : h150 (c + 1) = .inl (1, 2667, .inl yA) := by rw [e_h150, va_up_neq (nek0 (a := 1) (by decide))]; exact F_h94__c_1_
              have F_h150__c_5_ : h150 (c + 5) = .inl (1, (l + 1), .inl cA) := by rw [e_h150, va_up_neq (nek0 (a := 5) (by decide))]; exact F_h94__c_5_
              have F_h150__c_3_ : h150 (c + 3) = .inr (7, [.ref (c + 4), .int (nI nb), .int 0, .long hoT, .int hdT]) := by rw [e_h150, va_up_neq (nek0 (a := 3) (by decide))]; exact F_h94__c_3_
              have P_h150_fresh : ShT h150 (c + 20) l M (5 + k) (wU (cdF ss).1 (5 + k) 64) := P_h94_fresh.zfr (Fr.of e_h150) (fun j h1 h2 => by omega)
              have P_h150_told : RowN h150 (c + 3) 128 nb := P_h94_told.zfr (Fr.of e_h150) (nek0 (a := 3) (by decide)) (nek0 (a := 4) (by decide))
              have FR_h150 : Fr h h150 (fun j => j = c ∨ j = c + 3 ∨ j = c + 4 ∨ (c + 20 ≤ j ∧ j ≤ c + 26)) := FR_h94.zup e_h150 (by first | exact rfl | exact Or.inl rfl | exact Or.inr rfl | exact ⟨by decide, by decide⟩ | decide | omega)
              clear F_h94_c F_h94__c_1_ F_h94__c_5_ F_h94__c_3_ P_h94_fresh P_h94_told FR_h94 e_h150
              refine WX.s1 (L' := [(0, .ref c), (1, .int (nI B)), (2, .int (nI (5 + k))), (3, .int ((nI (5 + k)) + 1)), (4, .int (nI (8 * nb + rc)))]) rfl rfl ?_
              rw [show ((nI (5 + k)) + 1) = nI (5 + k + 1) from nI_add (5 + k) 1]
              refine WX.s1 rfl rfl ?_
              refine WX.keep (y := 14) [0, 1, 2, 3] (show ([0, 1, 2, 3, 4] : List Nat).Nodup by decide) rfl ?_
              have ec : clF ss B (k + 1) = (5 + k, shC ss (5 + k)) := cl_take hd (by rw [hsh]; exact n_131)
              rw [show min (8 * nb + rc) (clF ss B k).2 = 8 * nb + rc by omega, ← hsh] at F_h150_c
              have h9 := ih (k + 1) h150 (by omega) (by rw [ec]; show 5 + k < _; omega) (by rw [ec]; show shC ss (5 + k) ≤ _; omega) FR_h150 (by rw [ec]; exact F_h150_c) ((P_h150_fresh.toP).toX) (P_h150_told.toE)
              rw [ec] at h9
              exact h9
        · skip
          have n_35 : ((clF ss B k).2) ≤ (16 + (5 + k)) := Nat.le_of_not_lt (fun zz_ => c_35 ((nI_ltI (a := 16 + (5 + k)) (b := (clF ss B k).2) (by omega) (by omega)).mpr zz_))
          refine WX.s1 rfl rfl ?_
          refine WX.s1 (L' := [(0, .ref c), (1, .int (nI B)), (2, .int (nI (clF ss B k).1)), (3, .int ((nI (5 + k)) + 1))]) rfl rfl ?_
          rw [show ((nI (5 + k)) + 1) = nI (5 + k + 1) from nI_add (5 + k) 1]
          refine WX.s1 rfl rfl ?_
          have ec : clF ss B (k + 1) = clF ss B k := cl_keep n_24 (by have h1 := shC_ge hok (show 5 ≤ 5 + k by omega) (by omega) n_24; omega)
          have h9 := ih (k + 1) hL (by omega) (by rw [ec]; omega) (by rw [ec]; exact hb2k) FR_hL (by rw [ec]; exact F_hL_c) (P_hL_fresh) (P_hL_told)
          rw [ec] at h9
          exact h9
  have e0 : clF ss B 0 = (0, B) := if_neg (fun q => q.1 rfl)
  have h9 := lp (G - 4) 0 h4 (by omega) (by rw [e0]; show 0 < _; omega) (by rw [e0]; exact hB) FR_h4 (by rw [e0]; exact F_h4_c) P_h4_fresh P_h4_told
  rw [e0] at h9
  exact h9
set_option maxRecDepth 20000 in
theorem x_form {d n s : Nat} {h : Nat → aE} {c ba wi cho l M G : Nat} {mo bi ob sta ad : Int32} {ss : List Nat} {yA cA : Nat → Int32} {o : Nat}  (hc : c + 26 < n) (hl : l < 64) (hG6 : 6 ≤ G) (hG : G ≤ 9) (hM : M = 2 ^ G) (hok : SyOk ss) (hs : ∀ s, s ∈ ss → s ≤ l) (hy : ∀ i, i < ss.length → yA i = nI (ss.getD i 0)) (hcA : CntIs cA (cdF ss).1 (l + 1)) (ho5 : 5 ≤ o) (ho : o ≤ G) (hd : (cdF ss).2 ≤ 2 ^ o) (F_h_c : h c = .inr (1, [.ref ba, .ref wi, .int (nI G), .ref (c + 1), .ref (c + 2), .ref (c + 5), .int (nI ss.length), .int (nI (cdF ss).2), .int ad, .ref (c + 6), .ref (c + 13), .ref (c + 20), .ref cho, .ref (c + 3), .int mo, .int bi, .int ob, .int sta])) (F_h__c_1_ : h (c + 1) = .inl (1, 2667, .inl yA)) (F_h__c_5_ : h (c + 5) = .inl (1, (l + 1), .inl cA)) (P_h_fresh : ShX h (c + 20) l M) (P_h_told : RowE h (c + 3) 128) {Ψ : Option Value → aH → Prop} (kk : ∀ h', Fr h h' (fun j => j = c + 3 ∨ j = c + 4 ∨ (c + 20 ≤ j ∧ j ≤ c + 26)) → ShT h' (c + 20) l M o (wU (cdF ss).1 o 64) → RowIs h' (c + 3) 128 (some (leBy (shB (wU (cdF ss).1 o 64) o (0, 0)).2 (((shB (wU (cdF ss).1 o 64) o (0, 0)).1 + 7) / 8))) 0 0 → Ψ none (n, s, h')) : WO (mM (d + 5)) 15 [.ref c, .int (nI o)] (n, s, h) Ψ := by
  refine WO.of (Nat.le_of_ble_eq_true rfl) ?_
  have FR_h : Fr h h (fun j => j = c + 3 ∨ j = c + 4 ∨ (c + 20 ≤ j ∧ j ≤ c + 26)) := Fr.rf
  obtain ⟨hok1, hok2, hok3⟩ := id hok
  have h2G : 2 ^ G ≤ 2 ^ 9 := Nat.pow_le_pow_right (by decide) hG
  show WX (lk tX1_form) (mM (d + 4)) Ψ 0 [(0, .ref c), (1, .int (nI o))] [] (n, s, h)
  obtain ⟨eW, eS, eN⟩ := wU_l hok hl hs hd
  obtain ⟨hSm, hOw⟩ := own_l hok hl hs (Or.inr (by omega)) (by omega) hd
  have hS64 := (wU_sh hok hd).1
  obtain ⟨hb1, hb2⟩ := shB_le (by omega) (by omega) hS64 (0, 0)
  have hMo : 2 ^ o ≤ M := by rw [hM]; exact Nat.pow_le_pow_right (by decide) (by omega)
  refine WX.s1 rfl rfl ?_
  refine WX.get1 (fs := [.ref ba, .ref wi, .int (nI G), .ref (c + 1), .ref (c + 2), .ref (c + 5), .int (nI ss.length), .int (nI (cdF ss).2), .int ad, .ref (c + 6), .ref (c + 13), .ref (c + 20), .ref cho, .ref (c + 3), .int mo, .int bi, .int ob, .int sta]) rfl (by omega) (F_h_c) rfl ?_
  refine WX.s1 rfl rfl ?_
  refine WX.get1 (fs := [.ref ba, .ref wi, .int (nI G), .ref (c + 1), .ref (c + 2), .ref (c + 5), .int (nI ss.length), .int (nI (cdF ss).2), .int ad, .ref (c + 6), .ref (c + 13), .ref (c + 20), .ref cho, .ref (c + 3), .int mo, .int bi, .int ob, .int sta]) rfl (by omega) (F_h_c) rfl ?_
  refine WX.s1 rfl rfl ?_
  refine WX.callC (vs := [.ref (c + 20), .ref (c + 5), .int (nI o)]) rfl rfl rfl (Nat.le_of_ble_eq_true rfl) (P_h_fresh.rcv (by omega)) ?_
  refine xt_weigh (by omega) (by omega) (by omega) hl (by omega) hcA (by omega) (by omega) (by omega) P_h_fresh F_h__c_5_ (fun h9 fr9 P_h9_fresh => ?_)
  have F_h9_c : h9 c = .inr (1, [.ref ba, .ref wi, .int (nI G), .ref (c + 1), .ref (c + 2), .ref (c + 5), .int (nI ss.length), .int (nI (cdF ss).2), .int ad, .ref (c + 6), .ref (c + 13), .ref (c + 20), .ref cho, .ref (c + 3), .int mo, .int bi, .int ob, .int sta]) := (fr9 _ (by omega)).trans F_h_c
  have F_h9__c_1_ : h9 (c + 1) = .inl (1, 2667, .inl yA) := (fr9 _ (by omega)).trans F_h__c_1_
  have F_h9__c_5_ : h9 (c + 5) = .inl (1, (l + 1), .inl cA) := (fr9 _ (by omega)).trans F_h__c_5_
  have P_h9_told : RowE h9 (c + 3) 128 := P_h_told.zfr fr9 (by omega) (by omega)
  have FR_h9 : Fr h h9 (fun j => j = c + 3 ∨ j = c + 4 ∨ (c + 20 ≤ j ∧ j ≤ c + 26)) := FR_h.zsub fr9 (fun j hj => by first | exact hj | exact Or.inl hj | exact Or.inr hj | omega)
  show WX _ _ _ 12 [(0, .ref c), (1, .int (nI o))] [] (n, s, h9)
  rw [eW] at P_h9_fresh
  refine WX.s1 rfl rfl ?_
  refine WX.get1 (fs := [.ref ba, .ref wi, .int (nI G), .ref (c + 1), .ref (c + 2), .ref (c + 5), .int (nI ss.length), .int (nI (cdF ss).2), .int ad, .ref (c + 6), .ref (c + 13), .ref (c + 20), .ref cho, .ref (c + 3), .int mo, .int bi, .int ob, .int sta]) rfl (by omega) (F_h9_c) rfl ?_
  refine WX.callC (vs := [.ref (c + 20)]) rfl rfl rfl (Nat.le_of_ble_eq_true rfl) ((P_h9_fresh.toX).rcv (by omega)) ?_
  refine xt_spread (by omega) hl (Or.inr (by omega)) (by omega) hMo (by omega) hSm P_h9_fresh (fun h16 fr16 P_h16_fresh => ?_)
  have F_h16_c : h16 c = .inr (1, [.ref ba, .ref wi, .int (nI G), .ref (c + 1), .ref (c + 2), .ref (c + 5), .int (nI ss.length), .int (nI (cdF ss).2), .int ad, .ref (c + 6), .ref (c + 13), .ref (c + 20), .ref cho, .ref (c + 3), .int mo, .int bi, .int ob, .int sta]) := (fr16 _ (by omega)).trans F_h9_c
  have F_h16__c_1_ : h16 (c + 1) = .inl (1, 2667, .inl yA) := (fr16 _ (by omega)).trans F_h9__c_1_
  have F_h16__c_5_ : h16 (c + 5) = .inl (1, (l + 1), .inl cA) := (fr16 _ (by omega)).trans F_h9__c_5_
  have P_h16_told : RowE h16 (c + 3) 128 := P_h9_told.zfr fr16 (by omega) (by omega)
  have FR_h16 : Fr h h16 (fun j => j = c + 3 ∨ j = c + 4 ∨ (c + 20 ≤ j ∧ j ≤ c + 26)) := FR_h9.zsub fr16 (fun j hj => by first | exact hj | exact Or.inl hj | exact Or.inr hj | omega)
  show WX _ _ _ 19 [(0, .ref c), (1, .int (nI o))] [] (n, s, h16)
  refine WX.s1 rfl rfl ?_
  refine WX.get1 (fs := [.ref ba, .ref wi, .int (nI G), .ref (c + 1), .ref (c + 2), .ref (c + 5), .int (nI ss.length), .int (nI (cdF ss).2), .int ad, .ref (c + 6), .ref (c + 13), .ref (c + 20), .ref cho, .ref (c + 3), .int mo, .int bi, .int ob, .int sta]) rfl (by omega) (F_h16_c) rfl ?_
  refine WX.callC (vs := [.ref (c + 3)]) rfl rfl rfl (Nat.le_of_ble_eq_true rfl) (P_h16_told.rcv (by omega)) ?_
  refine w_dropE (by omega) P_h16_told (fun h23 fr23 P_h23_told => ?_)
  have F_h23_c : h23 c = .inr (1, [.ref ba, .ref wi, .int (nI G), .ref (c + 1), .ref (c + 2), .ref (c + 5), .int (nI ss.length), .int (nI (cdF ss).2), .int ad, .ref (c + 6), .ref (c + 13), .ref (c + 20), .ref cho, .ref (c + 3), .int mo, .int bi, .int ob, .int sta]) := (fr23 _ (by omega)).trans F_h16_c
  have F_h23__c_1_ : h23 (c + 1) = .inl (1, 2667, .inl yA) := (fr23 _ (by omega)).trans F_h16__c_1_
  have F_h23__c_5_ : h23 (c + 5) = .inl (1, (l + 1), .inl cA) := (fr23 _ (by omega)).trans F_h16__c_5_
  have P_h23_fresh : ShT h23 (c + 20) l M o (wU (cdF ss).1 o 64) := P_h16_fresh.zfr fr23 (fun j h1 h2 => by omega)
  have FR_h23 : Fr h h23 (fun j => j = c + 3 ∨ j = c + 4 ∨ (c + 20 ≤ j ∧ j ≤ c + 26)) := FR_h16.zsub fr23 (fun j hj => by first | exact hj | exact Or.inl hj | exact Or.inr hj | omega)
  show WX _ _ _ 26 [(0, .ref c), (1, .int (nI o))] [] (n, s, h23)
  refine WX.s1 rfl rfl ?_
  refine WX.get1 (fs := [.ref ba, .ref wi, .int (nI G), .ref (c + 1), .ref (c + 2), .ref (c + 5), .int (nI ss.length), .int (nI (cdF ss).2), .int ad, .ref (c + 6), .ref (c + 13), .ref (c + 20), .ref cho, .ref (c + 3), .int mo, .int bi, .int ob, .int sta]) rfl (by omega) (F_h23_c) rfl ?_
  refine WX.s1 rfl rfl ?_
  refine WX.get1 (fs := [.ref ba, .ref wi, .int (nI G), .ref (c + 1), .ref (c + 2), .ref (c + 5), .int (nI ss.length), .int (nI (cdF ss).2), .int ad, .ref (c + 6), .ref (c + 13), .ref (c + 20), .ref cho, .ref (c + 3), .int mo, .int bi, .int ob, .int sta]) rfl (by omega) (F_h23_c) rfl ?_
  refine WX.callC (vs := [.ref (c + 20), .ref (c + 3)]) rfl rfl rfl (Nat.le_of_ble_eq_true rfl) (((P_h23_fresh.toP).toX).rcv (by omega)) ?_
  refine xt_tellL (by omega) (by omega) (by omega) (by decide) hl (by omega) (by omega) hSm (by omega) P_h23_told P_h23_fresh.toP (fun h34 fr34 P_h34_told => ?_)
  have F_h34_c : h34 c = .inr (1, [.ref ba, .ref wi, .int (nI G), .ref (c + 1), .ref (c + 2), .ref (c + 5), .int (nI ss.length), .int (nI (cdF ss).2), .int ad, .ref (c + 6), .ref (c + 13), .ref (c + 20), .ref cho, .ref (c + 3), .int mo, .int bi, .int ob, .int sta]) := (fr34 _ (by omega)).trans F_h23_c
  have F_h34__c_1_ : h34 (c + 1) = .inl (1, 2667, .inl yA) := (fr34 _ (by omega)).trans F_h23__c_1_
  have F_h34__c_5_ : h34 (c + 5) = .inl (1, (l + 1), .inl cA) := (fr34 _ (by omega)).trans F_h23__c_5_
  have P_h34_fresh : ShT h34 (c + 20) l M o (wU (cdF ss).1 o 64) := P_h23_fresh.zfr fr34 (fun j h1 h2 => by omega)
  have FR_h34 : Fr h h34 (fun j => j = c + 3 ∨ j = c + 4 ∨ (c + 20 ≤ j ∧ j ≤ c + 26)) := FR_h23.zsub fr34 (fun j hj => by first | exact hj | exact Or.inl hj | exact Or.inr hj | omega)
  show WX _ _ _ 37 [(0, .ref c), (1, .int (nI o))] [] (n, s, h34)
  exact WX.ret0 rfl (kk h34 FR_h34 P_h34_fresh P_h34_told)
set_option maxRecDepth 20000 in
theorem x_beAlone {d n s : Nat} {h : Nat → aE} {k l M x : Nat} {od th : Int32} {pA rA fA wA oA sA : Nat → Int32}  (hk : k + 6 < n) (hl : l < 64) (hM1 : 1 ≤ M) (hMb : M < 2 ^ 20) (hx : x ≤ l) (F_h_k : h k = .inr (8, [.int (nI l), .ref (k + 1), .ref (k + 2), .ref (k + 3), .ref (k + 4), .ref (k + 5), .ref (k + 6), .int od, .int th])) (F_h__k_1_ : h (k + 1) = .inl (1, (l + 1), .inl pA)) (F_h__k_2_ : h (k + 2) = .inl (1, (l + 1), .inl rA)) (F_h__k_3_ : h (k + 3) = .inl (1, (l + 1), .inl fA)) (F_h__k_4_ : h (k + 4) = .inl (1, (l + 1), .inl wA)) (F_h__k_5_ : h (k + 5) = .inl (1, M, .inl oA)) (F_h__k_6_ : h (k + 6) = .inl (1, M, .inl sA))  {Ψ : Option Value → aH → Prop} (kk : ∀ h', Fr h h' (fun j => k ≤ j ∧ j ≤ k + 6) → ShT h' k l M 0 (aloU x) → Ψ none (n, s, h')) : WO (mM (d + 3)) 99 [.ref k, .int (nI x)] (n, s, h) Ψ := by
  refine WO.of (Nat.le_of_ble_eq_true rfl) ?_
  have FR_h : Fr h h (fun j => k ≤ j ∧ j ≤ k + 6) := Fr.rf
  show WX (lk tX8_beAlone) (mM (d + 2)) Ψ 0 [(0, .ref k), (1, .int (nI x))] [] (n, s, h)
  refine WX.s1 rfl rfl ?_
  refine WX.get1 (fs := [.int (nI l), .ref (k + 1), .ref (k + 2), .ref (k + 3), .ref (k + 4), .ref (k + 5), .ref (k + 6), .int od, .int th]) rfl (by omega) (F_h_k) rfl ?_
  refine WX.s1 rfl rfl ?_
  refine WX.callC (vs := [.ref (k + 1), .int 0]) rfl rfl rfl (Nat.le_of_ble_eq_true rfl) rfl ?_
  refine w_fill (by omega) F_h__k_1_ (by omega) (fun h5 g5 fr5 F_h5__k_1_ hg5 => ?_)
  have F_h5_k : h5 k = .inr (8, [.int (nI l), .ref (k + 1), .ref (k + 2), .ref (k + 3), .ref (k + 4), .ref (k + 5), .ref (k + 6), .int od, .int th]) := (fr5 _ (by omega)).trans F_h_k
  have F_h5__k_2_ : h5 (k + 2) = .inl (1, (l + 1), .inl rA) := (fr5 _ (by omega)).trans F_h__k_2_
  have F_h5__k_3_ : h5 (k + 3) = .inl (1, (l + 1), .inl fA) := (fr5 _ (by omega)).trans F_h__k_3_
  have F_h5__k_4_ : h5 (k + 4) = .inl (1, (l + 1), .inl wA) := (fr5 _ (by omega)).trans F_h__k_4_
  have F_h5__k_5_ : h5 (k + 5) = .inl (1, M, .inl oA) := (fr5 _ (by omega)).trans F_h__k_5_
  have F_h5__k_6_ : h5 (k + 6) = .inl (1, M, .inl sA) := (fr5 _ (by omega)).trans F_h__k_6_
  have FR_h5 : Fr h h5 (fun j => k ≤ j ∧ j ≤ k + 6) := FR_h.zsub fr5 (fun j hj => by first | exact hj | exact Or.inl hj | exact Or.inr hj | omega)
  show WX _ _ _ 8 [(0, .ref k), (1, .int (nI x))] [] (n, s, h5)
  refine WX.s1 rfl rfl ?_
  refine WX.if_ rfl (fun c_9 => absurd c_9 (fun zz_ => absurd ((nI_ltI (a := x) (b := 0) (by omega) (by omega)).mp zz_) (Nat.not_lt.mpr (by omega)))) (fun c_9 => ?_)
  clear c_9
  refine WX.s1 rfl rfl ?_
  refine WX.s1 rfl rfl ?_
  refine WX.get1 (fs := [.int (nI l), .ref (k + 1), .ref (k + 2), .ref (k + 3), .ref (k + 4), .ref (k + 5), .ref (k + 6), .int od, .int th]) rfl (by omega) (F_h5_k) rfl ?_
  refine WX.icmp rfl (fun c_17 => absurd c_17 (fun zz_ => absurd ((nI_ltI (a := l) (b := x) (by omega) (by omega)).mp zz_) (Nat.not_lt.mpr (by omega)))) (fun c_17 => ?_)
  clear c_17
  refine WX.s1 rfl rfl ?_
  refine WX.get1 (fs := [.int (nI l), .ref (k + 1), .ref (k + 2), .ref (k + 3), .ref (k + 4), .ref (k + 5), .ref (k + 6), .int od, .int th]) rfl (by omega) (F_h5_k) rfl ?_
  refine WX.s1 rfl rfl ?_
  refine WX.s1 rfl rfl ?_
  refine WX.iastN rfl (by omega) (F_h5__k_1_) (vp_in_nI (by omega) (by omega)) (fun g26 h26 e_g26 e_h26 => ?_)
  try dsimp only at e_g26
  have F_h26_k : h26 k = .inr (8, [.int (nI l), .ref (k + 1), .ref (k + 2), .ref (k + 3), .ref (k + 4), .ref (k + 5), .ref (k + 6), .int od, .int th]) := by rw [e_h26, va_up_neq (nek1 (a := 1) (by decide))]; exact F_h5_k
  have F_h26__k_1_ : h26 (k + 1) = .inl (1, (l + 1), .inl g26) := by rw [e_h26]; exact va_up_eq
  have F_h26__k_2_ : h26 (k + 2) = .inl (1, (l + 1), .inl rA) := by rw [e_h26, va_up_neq (nek (a := 2) (b := 1) (by decide))]; exact F_h5__k_2_
  have F_h26__k_3_ : h26 (k + 3) = .inl (1, (l + 1), .inl fA) := by rw [e_h26, va_up_neq (nek (a := 3) (b := 1) (by decide))]; exact F_h5__k_3_
  have F_h26__k_4_ : h26 (k + 4) = .inl (1, (l + 1), .inl wA) := by rw [e_h26, va_up_neq (nek (a := 4) (b := 1) (by decide))]; exact F_h5__k_4_
  have F_h26__k_5_ : h26 (k + 5) = .inl (1, M, .inl oA) := by rw [e_h26, va_up_neq (nek (a := 5) (b := 1) (by decide))]; exact F_h5__k_5_
  have F_h26__k_6_ : h26 (k + 6) = .inl (1, M, .inl sA) := by rw [e_h26, va_up_neq (nek (a := 6) (b := 1) (by decide))]; exact F_h5__k_6_
  have FR_h26 : Fr h h26 (fun j => k ≤ j ∧ j ≤ k + 6) := FR_h5.zup e_h26 (by first | exact rfl | exact Or.inl rfl | exact Or.inr rfl | exact ⟨by decide, by decide⟩ | decide | omega)
  clear F_h5_k F_h5__k_1_ F_h5__k_2_ F_h5__k_3_ F_h5__k_4_ F_h5__k_5_ F_h5__k_6_ FR_h5 e_h26
  refine WX.s1 rfl rfl ?_
  refine WX.s1 rfl rfl ?_
  refine WX.put1 (fs := [.int (nI l), .ref (k + 1), .ref (k + 2), .ref (k + 3), .ref (k + 4), .ref (k + 5), .ref (k + 6), .int od, .int th]) (fs' := [.int (nI l), .ref (k + 1), .ref (k + 2), .ref (k + 3), .ref (k + 4), .ref (k + 5), .ref (k + 6), .int 0, .int th]) rfl (by omega) (F_h26_k) (Nat.le_of_ble_eq_true rfl) (rfl) rfl (fun h29 e_h29 => ?_)
  have F_h29_k : h29 k = .inr (8, [.int (nI l), .ref (k + 1), .ref (k + 2), .ref (k + 3), .ref (k + 4), .ref (k + 5), .ref (k + 6), .int 0, .int th]) := by rw [e_h29]; exact va_up_eq
  have F_h29__k_1_ : h29 (k + 1) = .inl (1, (l + 1), .inl g26) := by rw [e_h29, va_up_neq (nek0 (a := 1) (by decide))]; exact F_h26__k_1_
  have F_h29__k_2_ : h29 (k + 2) = .inl (1, (l + 1), .inl rA) := by rw [e_h29, va_up_neq (nek0 (a := 2) (by decide))]; exact F_h26__k_2_
  have F_h29__k_3_ : h29 (k + 3) = .inl (1, (l + 1), .inl fA) := by rw [e_h29, va_up_neq (nek0 (a := 3) (by decide))]; exact F_h26__k_3_
  have F_h29__k_4_ : h29 (k + 4) = .inl (1, (l + 1), .inl wA) := by rw [e_h29, va_up_neq (nek0 (a := 4) (by decide))]; exact F_h26__k_4_
  have F_h29__k_5_ : h29 (k + 5) = .inl (1, M, .inl oA) := by rw [e_h29, va_up_neq (nek0 (a := 5) (by decide))]; exact F_h26__k_5_
  have F_h29__k_6_ : h29 (k + 6) = .inl (1, M, .inl sA) := by rw [e_h29, va_up_neq (nek0 (a := 6) (by decide))]; exact F_h26__k_6_
  have FR_h29 : Fr h h29 (fun j => k ≤ j ∧ j ≤ k + 6) := FR_h26.zup e_h29 (by first | exact rfl | exact Or.inl rfl | exact Or.inr rfl | exact ⟨by decide, by decide⟩ | decide | omega)
  clear F_h26_k F_h26__k_1_ F_h26__k_2_ F_h26__k_3_ F_h26__k_4_ F_h26__k_5_ F_h26__k_6_ FR_h26 e_h29
  refine WX.s1 rfl rfl ?_
  rw [nI_clamp (by omega)] at e_g26
  have hUa : UIs g26 (aloU x) (l + 1) := fun s hs => by
    rw [e_g26]
    unfold aloU
    by_cases z : s = x
    · rw [if_pos z, z, pk_us]; exact ⟨rfl, by decide⟩
    · rw [if_neg z, pk_un z, hg5 s (by omega)]; exact ⟨rfl, by decide⟩
  have P0 : ShP h29 k l M 0 (aloU x) := ⟨th, g26, rA, fA, wA, oA, sA, ⟨F_h29_k, F_h29__k_1_, F_h29__k_2_, F_h29__k_3_, F_h29__k_4_, F_h29__k_5_, F_h29__k_6_⟩, hUa⟩
  refine WX.callC (vs := [.ref k]) rfl rfl rfl (Nat.le_of_ble_eq_true rfl) (rcv_ok (by omega) F_h29_k) ?_
  refine xt_spread (by omega) hl (Or.inl rfl) (by decide) (by show 2 ^ 0 ≤ M; omega) hMb (by rw [alo_sum, if_pos (by omega)]) P0 (fun h33 fr33 PT => ?_)
  have FR_h33 : Fr h h33 (fun j => k ≤ j ∧ j ≤ k + 6) := FR_h29.zsub fr33 (fun j hj => by first | exact hj | exact Or.inl hj | exact Or.inr hj | omega)
  show WX _ _ _ 36 [(0, .ref k), (1, .int (nI x))] [] (n, s, h33)
  exact WX.ret0 rfl (kk h33 FR_h33 PT)
set_option maxRecDepth 20000 in
theorem x_consider {d n s : Nat} {h : Nat → aE} {c ba wi cho G sh ct bt : Nat} {way mo ob sta ad di ln : Int32}  (hc : c + 26 < n) (hct : ct < 2 ^ 31) (hbt : bt < 2 ^ 31) (F_h_c : h c = .inr (1, [.ref ba, .ref wi, .int (nI G), .ref (c + 1), .ref (c + 2), .ref (c + 5), .int ln, .int di, .int ad, .ref (c + 6), .ref (c + 13), .ref (c + 20), .ref cho, .ref (c + 3), .int mo, .int (nI bt), .int ob, .int sta]))  {Ψ : Option Value → aH → Prop} (kk1 : ct < bt → ∀ h', Fr h h' (fun j => j = c) → h' c = .inr (1, [.ref ba, .ref wi, .int (nI G), .ref (c + 1), .ref (c + 2), .ref (c + 5), .int ln, .int di, .int ad, .ref (c + 6), .ref (c + 13), .ref (c + 20), .ref sh, .ref (c + 3), .int way, .int (nI ct), .int ob, .int sta]) → Ψ none (n, s, h')) (kk2 : bt ≤ ct → Ψ none (n, s, h)) : WO (mM (d + 1)) 13 [.ref c, .int way, .ref sh, .int (nI ct)] (n, s, h) Ψ := by
  refine WO.of (Nat.le_of_ble_eq_true rfl) ?_
  have FR_h : Fr h h (fun j => j = c) := Fr.rf
  show WX (lk tX1_consider) (mM d) Ψ 0 [(0, .ref c), (1, .int way), (2, .ref sh), (3, .int (nI ct))] [] (n, s, h)
  refine WX.s1 rfl rfl ?_
  refine WX.s1 rfl rfl ?_
  refine WX.get1 (fs := [.ref ba, .ref wi, .int (nI G), .ref (c + 1), .ref (c + 2), .ref (c + 5), .int ln, .int di, .int ad, .ref (c + 6), .ref (c + 13), .ref (c + 20), .ref cho, .ref (c + 3), .int mo, .int (nI bt), .int ob, .int sta]) rfl (by omega) (F_h_c) rfl ?_
  refine WX.icmp rfl (fun c_5 => ?_) (fun c_5 => ?_)
  · skip
    have n_5 : bt ≤ ct := (nI_leI (a := bt) (b := ct) (by omega) (by omega)).mp c_5
    exact WX.ret0 rfl (kk2 n_5)
  · skip
    have n_5 : ct < bt := Nat.lt_of_not_le (fun zz_ => c_5 ((nI_leI (a := bt) (b := ct) (by omega) (by omega)).mpr zz_))
    refine WX.s1 rfl rfl ?_
    refine WX.s1 rfl rfl ?_
    refine WX.put1 (fs := [.ref ba, .ref wi, .int (nI G), .ref (c + 1), .ref (c + 2), .ref (c + 5), .int ln, .int di, .int ad, .ref (c + 6), .ref (c + 13), .ref (c + 20), .ref cho, .ref (c + 3), .int mo, .int (nI bt), .int ob, .int sta]) (fs' := [.ref ba, .ref wi, .int (nI G), .ref (c + 1), .ref (c + 2), .ref (c + 5), .int ln, .int di, .int ad, .ref (c + 6), .ref (c + 13), .ref (c + 20), .ref cho, .ref (c + 3), .int way, .int (nI bt), .int ob, .int sta]) rfl (by omega) (F_h_c) (Nat.le_of_ble_eq_true rfl) (rfl) rfl (fun h10 e_h10 => ?_)
    have F_h10_c : h10 c = .inr (1, [.ref ba, .ref wi, .int (nI G), .ref (c + 1), .ref (c + 2), .ref (c + 5), .int ln, .int di, .int ad, .ref (c + 6), .ref (c + 13), .ref (c + 20), .ref cho, .ref (c + 3), .int way, .int (nI bt), .int ob, .int sta]) := by rw [e_h10]; exact va_up_eq
    have FR_h10 : Fr h h10 (fun j => j = c) := FR_h.zup e_h10 (by first | exact rfl | exact Or.inl rfl | exact Or.inr rfl | exact ⟨by decide, by decide⟩ | decide | omega)
    clear F_h_c FR_h e_h10
    refine WX.s1 rfl rfl ?_
    refine WX.s1 rfl rfl ?_
    refine WX.put1 (fs := [.ref ba, .ref wi, .int (nI G), .ref (c + 1), .ref (c + 2), .ref (c + 5), .int ln, .int di, .int ad, .ref (c + 6), .ref (c + 13), .ref (c + 20), .ref cho, .ref (c + 3), .int way, .int (nI bt), .int ob, .int sta]) (fs' := [.ref ba, .ref wi, .int (nI G), .ref (c + 1), .ref (c + 2), .ref (c + 5), .int ln, .int di, .int ad, .ref (c + 6), .ref (c + 13), .ref (c + 20), .ref sh, .ref (c + 3), .int way, .int (nI bt), .int ob, .int sta]) rfl (by omega) (F_h10_c) (Nat.le_of_ble_eq_true rfl) (rfl) rfl (fun h15 e_h15 => ?_)
    have F_h15_c : h15 c = .inr (1, [.ref ba, .ref wi, .int (nI G), .ref (c + 1), .ref (c + 2), .ref (c + 5), .int ln, .int di, .int ad, .ref (c + 6), .ref (c + 13), .ref (c + 20), .ref sh, .ref (c + 3), .int way, .int (nI bt), .int ob, .int sta]) := by rw [e_h15]; exact va_up_eq
    have FR_h15 : Fr h h15 (fun j => j = c) := FR_h10.zup e_h15 (by first | exact rfl | exact Or.inl rfl | exact Or.inr rfl | exact ⟨by decide, by decide⟩ | decide | omega)
    clear F_h10_c FR_h10 e_h15
    refine WX.s1 rfl rfl ?_
    refine WX.s1 rfl rfl ?_
    refine WX.put1 (fs := [.ref ba, .ref wi, .int (nI G), .ref (c + 1), .ref (c + 2), .ref (c + 5), .int ln, .int di, .int ad, .ref (c + 6), .ref (c + 13), .ref (c + 20), .ref sh, .ref (c + 3), .int way, .int (nI bt), .int ob, .int sta]) (fs' := [.ref ba, .ref wi, .int (nI G), .ref (c + 1), .ref (c + 2), .ref (c + 5), .int ln, .int di, .int ad, .ref (c + 6), .ref (c + 13), .ref (c + 20), .ref sh, .ref (c + 3), .int way, .int (nI ct), .int ob, .int sta]) rfl (by omega) (F_h15_c) (Nat.le_of_ble_eq_true rfl) (rfl) rfl (fun h20 e_h20 => ?_)
    have F_h20_c : h20 c = .inr (1, [.ref ba, .ref wi, .int (nI G), .ref (c + 1), .ref (c + 2), .ref (c + 5), .int ln, .int di, .int ad, .ref (c + 6), .ref (c + 13), .ref (c + 20), .ref sh, .ref (c + 3), .int way, .int (nI ct), .int ob, .int sta]) := by rw [e_h20]; exact va_up_eq
    have FR_h20 : Fr h h20 (fun j => j = c) := FR_h15.zup e_h20 (by first | exact rfl | exact Or.inl rfl | exact Or.inr rfl | exact ⟨by decide, by decide⟩ | decide | omega)
    clear F_h15_c FR_h15 e_h20
    exact WX.ret0 rfl (kk1 n_5 h20 FR_h20 F_h20_c)
