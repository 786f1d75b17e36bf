/-! Finder.search, lookAhead, find: the match that the rule takes -/
def qI (z : Nat) : Int32 := if z = 0 then -1 else nI (z - 1)
theorem qI0 : qI 0 = -1 := rfl
theorem qIs (z : Nat) : qI (z + 1) = nI z := rfl
def ChainAt (H : Nat → Nat) (U : Nat) (E : Nat → Int32) : Prop := ∀ p, p + 2 < U → ∃ z, z ≤ p ∧ E p = qI z ∧ (z ≠ 0 → H (z - 1) = H p) ∧ ∀ x, z ≤ x → x < p → H x ≠ H p
def HashOk (D H : Nat → Nat) : Prop := ∀ a b, D a = D b → D (a + 1) = D (b + 1) → D (a + 2) = D (b + 2) → H a = H b
theorem maxsub {p w : Nat} (hp : p < 2 ^ 30) (hw : w < 2 ^ 30) : (if nI p - nI w < 0 then (0 : Int32) else nI p - nI w) = nI (p - w) := by
  rcases Nat.lt_or_ge p w with z | z
  · have e : nI p - nI w < 0 := by
      rw [Int32.lt_iff_toInt_lt, Int32.toInt_sub, nI_toInt (by omega), nI_toInt (by omega)]
      show (((p : Int) - (w : Int)).bmod (2 ^ 32)) < 0
      rw [Int.bmod_eq_of_le (by omega) (by omega)]
      omega
    rw [if_pos e, show p - w = 0 by omega]
    rfl
  · obtain ⟨k, rfl⟩ : ∃ k, p = k + w := ⟨p - w, by omega⟩
    have e : nI (k + w) - nI w = nI k := by rw [← nI_add]; exact Int32.add_sub_cancel _ _
    rw [e, if_neg (nI_pos (by omega)), show k + w - w = k by omega]
theorem com3 {D H : Nat → Nat} (hH : HashOk D H) {x p t : Nat} (h : H x ≠ H p) : comN D x p t < 3 := by
  apply Nat.lt_of_not_le
  intro z
  have c := comN_is D t x p
  exact h (hH x p (c.2.1 0 (by omega)) (c.2.1 1 (by omega)) (c.2.1 2 (by omega)))
theorem mFold_skip {D H : Nat → Nat} (hH : HashOk D H) {way least e p : Nat} (hl : 3 ≤ least) {b : Nat} : ∀ (k : Nat), b + k ≤ p → (∀ x, b ≤ x → x < b + k → H x ≠ H p) → mFold D way least e p (p - b) = mFold D way least e p (p - (b + k)) := by
  intro k
  induction k with
  | zero => intro _ _; rfl
  | succ k ih =>
    intro hk hx
    rw [ih (by omega) (fun x h1 h2 => hx x h1 (by omega))]
    obtain ⟨j, hj⟩ : ∃ j, p - (b + k) = j + 1 := ⟨p - (b + k) - 1, by omega⟩
    rw [hj, show p - (b + (k + 1)) = j by omega]
    show mStep way least (mFold D way least e p j) (p - 1 - j) (comN D (p - 1 - j) p (e - p)) = _
    refine mStep_n (fun z => ?_)
    have := com3 hH (t := e - p) (hx (p - 1 - j) (by omega) (by omega))
    omega
def rd (r : Nat × Nat) (p : Nat) : Nat := if r.1 = 0 then 0 else p - r.2
theorem mAt_none {D : Nat → Nat} {way least win e p : Nat} (h : e < p + least) (hl : 1 ≤ least) : (mAt D way least win e p).1 = 0 := by
  apply Classical.byContradiction
  intro z
  have a := mFold_le D way least e p (min p win)
  have b := mFold_at D (way := way) (least := least) (e := e) (p := p) (j := min p win) hl (Nat.min_le_left _ _) z
  unfold mAt at z
  omega
theorem neg1lt {k : Nat} (h : k < 2 ^ 31) : (-1 : Int32) < nI k := Int32.lt_of_lt_of_le (show (-1 : Int32) < 0 by decide) (nI_pos' h)
theorem nI_subN {a b : Nat} (h : b ≤ a) : nI a - nI b = nI (a - b) := by
  obtain ⟨k, rfl⟩ : ∃ k, a = k + b := ⟨a - b, by omega⟩
  rw [← nI_add, Nat.add_sub_cancel]
  exact Int32.add_sub_cancel _ _
set_option maxRecDepth 20000 in
theorem x_search {d n s : Nat} {h : Nat → aE} {D H : Nat → Nat} {dA eA : Nat → Int32} {U way least win e p : Nat} {fap fal fad fle fdi : Int32} (hn : 190 ≤ n) (hD : ∀ i, i < U → D i < 256 ∧ dA i = sb_b (D i)) (hU : U ≤ 16000) (hw : way ≤ 3) (hl3 : 3 ≤ least) (hl8 : least ≤ 8) (hwin : win < 2 ^ 30) (he : e ≤ U) (hp : p ≤ e) (hC : ChainAt H U eA) (hH : HashOk D H) (F_h_82 : h 82 = .inr (3, [.ref 83, .int (nI U), .ref 84, .ref 85, .int (nI way), .int (nI least), .int (nI win), .int (nI e), .int fle, .int fdi, .int fap, .int fal, .int fad])) (F_h_83 : h 83 = .inl (0, 16000, .inl dA)) (F_h_84 : h 84 = .inl (1, 16000, .inl eA))  {Ψ : Option Value → aH → Prop} (kk : ∀ h', Fr h h' (fun j => j = 82) → h' 82 = .inr (3, [.ref 83, .int (nI U), .ref 84, .ref 85, .int (nI way), .int (nI least), .int (nI win), .int (nI e), .int (nI (mAt D (wy way) least win e p).1), .int (nI (rd (mAt D (wy way) least win e p) p)), .int fap, .int fal, .int fad]) → Ψ none (n, s, h')) : WO (mM (d + 2)) 41 [.ref 82, .int (nI p)] (n, s, h) Ψ := by
  refine WO.of (Nat.le_of_ble_eq_true rfl) ?_
  have FR_h : Fr h h (fun j => j = 82) := Fr.rf
  show WX (lk tX3_search) (mM (d + 1)) Ψ 0 [(0, .ref 82), (1, .int (nI p))] [] (n, s, h)
  refine WX.s1 rfl rfl ?_
  refine WX.s1 rfl rfl ?_
  refine WX.put1 (fs := [.ref 83, .int (nI U), .ref 84, .ref 85, .int (nI way), .int (nI least), .int (nI win), .int (nI e), .int fle, .int fdi, .int fap, .int fal, .int fad]) (fs' := [.ref 83, .int (nI U), .ref 84, .ref 85, .int (nI way), .int (nI least), .int (nI win), .int (nI e), .int 0, .int fdi, .int fap, .int fal, .int fad]) rfl (ltN hn (by decide)) (F_h_82) (Nat.le_of_ble_eq_true rfl) (rfl) rfl (fun h2 e_h2 => ?_)
  have F_h2_82 : h2 82 = .inr (3, [.ref 83, .int (nI U), .ref 84, .ref 85, .int (nI way), .int (nI least), .int (nI win), .int (nI e), .int 0, .int fdi, .int fap, .int fal, .int fad]) := by rw [e_h2]; exact va_up_eq
  have F_h2_83 : h2 83 = .inl (0, 16000, .inl dA) := by rw [e_h2, va_up_neq (by decide)]; exact F_h_83
  have F_h2_84 : h2 84 = .inl (1, 16000, .inl eA) := by rw [e_h2, va_up_neq (by decide)]; exact F_h_84
  have FR_h2 : Fr h h2 (fun j => j = 82) := FR_h.zup e_h2 (by first | exact rfl | exact Or.inl rfl | exact Or.inr rfl | exact ⟨by decide, by decide⟩ | decide | omega)
  refine WX.s1 rfl rfl ?_
  refine WX.s1 rfl rfl ?_
  refine WX.put1 (fs := [.ref 83, .int (nI U), .ref 84, .ref 85, .int (nI way), .int (nI least), .int (nI win), .int (nI e), .int 0, .int fdi, .int fap, .int fal, .int fad]) (fs' := [.ref 83, .int (nI U), .ref 84, .ref 85, .int (nI way), .int (nI least), .int (nI win), .int (nI e), .int 0, .int 0, .int fap, .int fal, .int fad]) rfl (ltN hn (by decide)) (F_h2_82) (Nat.le_of_ble_eq_true rfl) (rfl) rfl (fun h7 e_h7 => ?_)
  have F_h7_82 : h7 82 = .inr (3, [.ref 83, .int (nI U), .ref 84, .ref 85, .int (nI way), .int (nI least), .int (nI win), .int (nI e), .int 0, .int 0, .int fap, .int fal, .int fad]) := by rw [e_h7]; exact va_up_eq
  have F_h7_83 : h7 83 = .inl (0, 16000, .inl dA) := by rw [e_h7, va_up_neq (by decide)]; exact F_h2_83
  have F_h7_84 : h7 84 = .inl (1, 16000, .inl eA) := by rw [e_h7, va_up_neq (by decide)]; exact F_h2_84
  have FR_h7 : Fr h h7 (fun j => j = 82) := FR_h2.zup e_h7 (by first | exact rfl | exact Or.inl rfl | exact Or.inr rfl | exact ⟨by decide, by decide⟩ | decide | omega)
  refine WX.s1 rfl rfl ?_
  refine WX.if_ rfl (fun c_11 => absurd c_11 (fun zz_ => absurd ((nI_ltI (a := p) (b := 0) (by omega) (by omega)).mp zz_) (Nat.not_lt.mpr (by omega)))) (fun c_11 => ?_)
  clear c_11
  refine WX.s1 rfl rfl ?_
  refine WX.s1 rfl rfl ?_
  refine WX.get1 (fs := [.ref 83, .int (nI U), .ref 84, .ref 85, .int (nI way), .int (nI least), .int (nI win), .int (nI e), .int 0, .int 0, .int fap, .int fal, .int fad]) rfl (ltN hn (by decide)) (F_h7_82) rfl ?_
  refine WX.s1 (S' := [.int ((nI p) + (nI least))]) rfl rfl ?_
  rw [show ((nI p) + (nI least)) = nI (p + least) from nI_add p least]
  refine WX.s1 rfl rfl ?_
  refine WX.get1 (fs := [.ref 83, .int (nI U), .ref 84, .ref 85, .int (nI way), .int (nI least), .int (nI win), .int (nI e), .int 0, .int 0, .int fap, .int fal, .int fad]) rfl (ltN hn (by decide)) (F_h7_82) rfl ?_
  refine WX.icmp rfl (fun c_24 => ?_) (fun c_24 => ?_)
  · skip
    have n_24 : (p + least) ≤ e := (nI_leI (a := p + least) (b := e) (by omega) (by omega)).mp c_24
    refine WX.s1 rfl rfl ?_
    refine WX.s1 rfl rfl ?_
    refine WX.get1 (fs := [.ref 83, .int (nI U), .ref 84, .ref 85, .int (nI way), .int (nI least), .int (nI win), .int (nI e), .int 0, .int 0, .int fap, .int fal, .int fad]) rfl (ltN hn (by decide)) (F_h7_82) rfl ?_
    refine WX.s1 (S' := [.int ((nI p) - (nI win))]) rfl rfl ?_
    refine WX.s1 rfl rfl ?_
    refine WX.s1 (S' := [.int (if ((nI p) - (nI win)) < 0 then 0 else ((nI p) - (nI win)))]) rfl rfl ?_
    rw [maxsub (by omega) hwin]
    refine WX.s1 (L' := [(0, .ref 82), (1, .int (nI p)), (2, .int (nI (p - win)))]) rfl rfl ?_
    refine WX.s1 rfl rfl ?_
    refine WX.get1 (fs := [.ref 83, .int (nI U), .ref 84, .ref 85, .int (nI way), .int (nI least), .int (nI win), .int (nI e), .int 0, .int 0, .int fap, .int fal, .int fad]) rfl (ltN hn (by decide)) (F_h7_82) rfl ?_
    refine WX.s1 rfl rfl ?_
    refine WX.iald1 rfl (Or.inl (ltN hn (by decide))) (F_h7_84) (vp_in_nI (N := 16000) (by omega) (by decide)) ?_
    rw [nI_clamp (by omega)]
    obtain ⟨z0, hz0, ez0, hzh, hzx⟩ := hC p (by omega)
    rw [ez0]
    refine WX.s1 (L' := [(0, .ref 82), (1, .int (nI p)), (2, .int (nI (p - win))), (3, .int (qI z0))]) rfl rfl ?_
    refine WX.s1 rfl rfl ?_
    refine WX.s1 (L' := [(0, .ref 82), (1, .int (nI p)), (2, .int (nI (p - win))), (3, .int (qI z0)), (4, .int 0)]) rfl rfl ?_
    have lp : ∀ (t z a i : Nat) (hL : Nat → aE), z ≤ t → (z ≠ 0 → H (z - 1) = H p) → z ≤ a → a ≤ p → (∀ x, z ≤ x → x < a → H x ≠ H p) → p - win ≤ a → i + z ≤ p → (way = 0 → (mFold D (wy way) least e p (p - a)).1 = 0) → (way = 1 → (mFold D (wy way) least e p (p - a)).1 < 8) → p + (mFold D (wy way) least e p (p - a)).1 < e → Fr h hL (fun j => j = 82) → hL 82 = .inr (3, [.ref 83, .int (nI U), .ref 84, .ref 85, .int (nI way), .int (nI least), .int (nI win), .int (nI e), .int (nI (mFold D (wy way) least e p (p - a)).1), .int (nI (rd (mFold D (wy way) least e p (p - a)) p)), .int fap, .int fal, .int fad]) → WX (lk tX3_search) (mM (d + 1)) Ψ 49 [(0, .ref 82), (1, .int (nI p)), (2, .int (nI (p - win))), (3, .int (qI z)), (4, .int (nI i))] [] (n, s, hL) := by
      have F0_83 := F_h_83
      have F0_84 := F_h_84
      clear F_h7_82 F_h7_83 F_h7_84 FR_h7
      intro t
      induction t with
      | zero =>
        intro z a i hL hzt hzp hza hap hx hwa hiz g0 g1 g2 FR_hL F_hL_82
        have F_hL_83 : hL 83 = .inl (0, 16000, .inl dA) := (FR_hL 83 (by decide)).trans F0_83
        have F_hL_84 : hL 84 = .inl (1, 16000, .inl eA) := (FR_hL 84 (by decide)).trans F0_84
        obtain rfl : z = 0 := by omega
        rw [qI0]
        refine WX.s1 rfl rfl ?_
        refine WX.s1 rfl rfl ?_
        refine WX.icmp rfl (fun c_54 => absurd c_54 (fun zz_ => absurd ((nI_leI (a := 16000) (b := i) (by omega) (by omega)).mp zz_) (Nat.not_le.mpr (by omega)))) (fun c_54 => ?_)
        clear c_54
        refine WX.s1 rfl rfl ?_
        refine WX.s1 rfl rfl ?_
        refine WX.icmp rfl (fun c_59 => ?_) (fun c_59 => absurd (neg1lt (by omega)) c_59)
        refine WX.ret0 rfl (kk hL FR_hL ?_)
        have em : mAt D (wy way) least win e p = mFold D (wy way) least e p (p - a) := by
          have h1 := mFold_skip hH (way := wy way) (e := e) hl3 (b := p - win) (p := p) (a - (p - win)) (by omega) (fun x h1 h2 => hx x (by omega) (by omega))
          rw [show p - win + (a - (p - win)) = a by omega] at h1
          rw [← h1]
          unfold mAt
          rw [show min p win = p - (p - win) by omega]
        rw [em]
        exact F_hL_82
      | succ t ih =>
        intro z a i hL hzt hzp hza hap hx hwa hiz g0 g1 g2 FR_hL F_hL_82
        have F_hL_83 : hL 83 = .inl (0, 16000, .inl dA) := (FR_hL 83 (by decide)).trans F0_83
        have F_hL_84 : hL 84 = .inl (1, 16000, .inl eA) := (FR_hL 84 (by decide)).trans F0_84
        cases z with
        | zero =>
          rw [qI0]
          refine WX.s1 rfl rfl ?_
          refine WX.s1 rfl rfl ?_
          refine WX.icmp rfl (fun c_54 => absurd c_54 (fun zz_ => absurd ((nI_leI (a := 16000) (b := i) (by omega) (by omega)).mp zz_) (Nat.not_le.mpr (by omega)))) (fun c_54 => ?_)
          clear c_54
          refine WX.s1 rfl rfl ?_
          refine WX.s1 rfl rfl ?_
          refine WX.icmp rfl (fun c_59 => ?_) (fun c_59 => absurd (neg1lt (by omega)) c_59)
          refine WX.ret0 rfl (kk hL FR_hL ?_)
          have em : mAt D (wy way) least win e p = mFold D (wy way) least e p (p - a) := by
            have h1 := mFold_skip hH (way := wy way) (e := e) hl3 (b := p - win) (p := p) (a - (p - win)) (by omega) (fun x h1 h2 => hx x (by omega) (by omega))
            rw [show p - win + (a - (p - win)) = a by omega] at h1
            rw [← h1]
            unfold mAt
            rw [show min p win = p - (p - win) by omega]
          rw [em]
          exact F_hL_82
        | succ z =>
          rw [qIs]
          have hHz : H z = H p ∨ H z ≠ H p := Classical.em _
          obtain ⟨y, hy, ey, hyh, hyx⟩ := hC z (by omega)
          have hco := comN_is D (e - p) z p
          have hfs : mFold D (wy way) least e p (p - z) = mStep (wy way) least (mFold D (wy way) least e p (p - a)) z (comN D z p (e - p)) := by
            have h1 := mFold_skip hH (way := wy way) (e := e) hl3 (b := z + 1) (p := p) (a - (z + 1)) (by omega) (fun x h1 h2 => hx x (by omega) (by omega))
            rw [show z + 1 + (a - (z + 1)) = a by omega] at h1
            rw [← h1]
            obtain ⟨j, hj⟩ : ∃ j, p - z = j + 1 := ⟨p - z - 1, by omega⟩
            rw [hj, show p - (z + 1) = j by omega]
            show mStep (wy way) least (mFold D (wy way) least e p j) (p - 1 - j) (comN D (p - 1 - j) p (e - p)) = _
            rw [show p - 1 - j = z by omega]
          have hEz : H z = H p := hzp (by omega)
          refine WX.s1 rfl rfl ?_
          refine WX.s1 rfl rfl ?_
          refine WX.icmp rfl (fun c_54 => absurd c_54 (fun zz_ => absurd ((nI_leI (a := 16000) (b := i) (by omega) (by omega)).mp zz_) (Nat.not_le.mpr (by omega)))) (fun c_54 => ?_)
          clear c_54
          refine WX.s1 rfl rfl ?_
          refine WX.s1 rfl rfl ?_
          refine WX.icmp rfl (fun c_59 => ?_) (fun c_59 => ?_)
          · skip
            have n_59 : z < (p - win) := (nI_ltI (a := z) (b := p - win) (by omega) (by omega)).mp c_59
            refine WX.ret0 rfl (kk hL FR_hL ?_)
            have em : mAt D (wy way) least win e p = mFold D (wy way) least e p (p - a) := by
              have h1 := mFold_skip hH (way := wy way) (e := e) hl3 (b := p - win) (p := p) (a - (p - win)) (by omega) (fun x h1 h2 => hx x (by omega) (by omega))
              rw [show p - win + (a - (p - win)) = a by omega] at h1
              rw [← h1]
              unfold mAt
              rw [show min p win = p - (p - win) by omega]
            rw [em]
            exact F_hL_82
          · skip
            have n_59 : (p - win) ≤ z := Nat.le_of_not_lt (fun zz_ => c_59 ((nI_ltI (a := z) (b := p - win) (by omega) (by omega)).mpr zz_))
            have hzw : p - win ≤ z := by omega
            have hxx : ∀ x, y ≤ x → x < z → H x ≠ H p := fun x h1 h2 q => hyx x h1 h2 (q.trans hEz.symm)
            refine WX.s1 rfl rfl ?_
            refine WX.get1 (fs := [.ref 83, .int (nI U), .ref 84, .ref 85, .int (nI way), .int (nI least), .int (nI win), .int (nI e), .int (nI (mFold D (wy way) least e p (p - a)).1), .int (nI (rd (mFold D (wy way) least e p (p - a)) p)), .int fap, .int fal, .int fad]) rfl (ltN hn (by decide)) (F_hL_82) rfl ?_
            refine WX.s1 rfl rfl ?_
            refine WX.icmp rfl (fun c_67 => ?_) (fun c_67 => ?_)
            · skip
              have n_67 : way < 2 := (nI_ltI (a := way) (b := 2) (by omega) (by omega)).mp c_67
              refine WX.s1 rfl rfl ?_
              refine WX.s1 rfl rfl ?_
              refine WX.s1 rfl rfl ?_
              refine WX.callC (vs := [.ref 82, .int (nI z), .int (nI p)]) rfl rfl rfl (Nat.le_of_ble_eq_true rfl) (rcv_ok (ltN hn (by decide)) F_hL_82) ?_
              refine x_common hn hD hU he (by omega) (by omega) F_hL_82 F_hL_83 (fun k hk => ?_)
              obtain rfl := IsCom.uniq hco hk
              show WX _ _ _ 101 [(0, .ref 82), (1, .int (nI p)), (2, .int (nI (p - win))), (3, .int (nI z)), (4, .int (nI i))] [.int (nI (comN D z p (e - p)))] (n, s, hL)
              have hk1 := hk.1
              refine WX.s1 (L' := [(0, .ref 82), (1, .int (nI p)), (2, .int (nI (p - win))), (3, .int (nI z)), (4, .int (nI i)), (5, .int (nI (comN D z p (e - p))))]) rfl rfl ?_
              refine WX.s1 rfl rfl ?_
              refine WX.s1 rfl rfl ?_
              refine WX.get1 (fs := [.ref 83, .int (nI U), .ref 84, .ref 85, .int (nI way), .int (nI least), .int (nI win), .int (nI e), .int (nI (mFold D (wy way) least e p (p - a)).1), .int (nI (rd (mFold D (wy way) least e p (p - a)) p)), .int fap, .int fal, .int fad]) rfl (ltN hn (by decide)) (F_hL_82) rfl ?_
              refine WX.icmp rfl (fun c_109 => ?_) (fun c_109 => ?_)
              · skip
                have n_109 : (comN D z p (e - p)) < least := (nI_ltI (a := comN D z p (e - p)) (b := least) (by omega) (by omega)).mp c_109
                refine WX.s1 rfl rfl ?_
                refine WX.get1 (fs := [.ref 83, .int (nI U), .ref 84, .ref 85, .int (nI way), .int (nI least), .int (nI win), .int (nI e), .int (nI (mFold D (wy way) least e p (p - a)).1), .int (nI (rd (mFold D (wy way) least e p (p - a)) p)), .int fap, .int fal, .int fad]) rfl (ltN hn (by decide)) (F_hL_82) rfl ?_
                refine WX.s1 rfl rfl ?_
                refine WX.iald1 rfl (Or.inl (ltN hn (by decide))) (F_hL_84) (vp_in_nI (N := 16000) (by omega) (by decide)) ?_
                rw [nI_clamp (by omega), ey]
                refine WX.s1 (L' := [(0, .ref 82), (1, .int (nI p)), (2, .int (nI (p - win))), (3, .int (qI y)), (4, .int (nI i)), (5, .int (nI (comN D z p (e - p))))]) rfl rfl ?_
                refine WX.s1 (L' := [(0, .ref 82), (1, .int (nI p)), (2, .int (nI (p - win))), (3, .int (qI y)), (4, .int ((nI i) + 1)), (5, .int (nI (comN D z p (e - p))))]) rfl rfl ?_
                rw [show ((nI i) + 1) = nI (i + 1) from nI_add i 1]
                refine WX.s1 rfl rfl ?_
                refine WX.keep (y := 41) [0, 1, 2, 3, 4] (show ([0, 1, 2, 3, 4, 5] : List Nat).Nodup by decide) rfl ?_
                have hst : mFold D (wy way) least e p (p - z) = mFold D (wy way) least e p (p - a) := hfs.trans (mStep_n ?_)
                rotate_left
                · rintro ⟨b1, b2⟩
                  first
                    | exact hb b2
                    | omega
                    | (have b3 : (mFold D (wy way) least e p (p - a)).1 < comN D z p (e - p) := by rcases way4 hw with rfl | rfl | rfl | rfl <;> first | omega | exact mBet2.mp b2 | exact mBet3.mp b2
                       exact c_92 ((sb_eqI (hD _ (by omega)).1 (hD _ (by omega)).1).mpr (hco.2.1 _ b3)))
                refine ih y z (i + 1) hL (by omega) (fun q => (hyh q).trans hEz) (by omega) (by omega) hxx (by omega) (by omega) (by rw [hst]; exact g0) (by rw [hst]; exact g1) (by rw [hst]; exact g2) FR_hL (by rw [hst]; exact F_hL_82)
              · skip
                have n_109 : least ≤ (comN D z p (e - p)) := Nat.le_of_not_lt (fun zz_ => c_109 ((nI_ltI (a := comN D z p (e - p)) (b := least) (by omega) (by omega)).mpr zz_))
                refine WX.s1 rfl rfl ?_
                refine WX.s1 rfl rfl ?_
                refine WX.callC (vs := [.ref 82, .int (nI (comN D z p (e - p)))]) rfl rfl rfl (Nat.le_of_ble_eq_true rfl) (rcv_ok (ltN hn (by decide)) F_hL_82) ?_
                refine x_better hn hw (by omega) (by omega) g0 g1 (by omega) F_hL_82 (fun hb => ?_) (fun hb => ?_)
                · skip
                  show WX _ _ _ 118 [(0, .ref 82), (1, .int (nI p)), (2, .int (nI (p - win))), (3, .int (nI z)), (4, .int (nI i)), (5, .int (nI (comN D z p (e - p))))] [.int 0] (n, s, hL)
                  refine WX.if_ rfl (fun c_118 => ?_) (fun c_118 => absurd (by decide) c_118)
                  clear c_118
                  refine WX.s1 rfl rfl ?_
                  refine WX.get1 (fs := [.ref 83, .int (nI U), .ref 84, .ref 85, .int (nI way), .int (nI least), .int (nI win), .int (nI e), .int (nI (mFold D (wy way) least e p (p - a)).1), .int (nI (rd (mFold D (wy way) least e p (p - a)) p)), .int fap, .int fal, .int fad]) rfl (ltN hn (by decide)) (F_hL_82) rfl ?_
                  refine WX.s1 rfl rfl ?_
                  refine WX.iald1 rfl (Or.inl (ltN hn (by decide))) (F_hL_84) (vp_in_nI (N := 16000) (by omega) (by decide)) ?_
                  rw [nI_clamp (by omega), ey]
                  refine WX.s1 (L' := [(0, .ref 82), (1, .int (nI p)), (2, .int (nI (p - win))), (3, .int (qI y)), (4, .int (nI i)), (5, .int (nI (comN D z p (e - p))))]) rfl rfl ?_
                  refine WX.s1 (L' := [(0, .ref 82), (1, .int (nI p)), (2, .int (nI (p - win))), (3, .int (qI y)), (4, .int ((nI i) + 1)), (5, .int (nI (comN D z p (e - p))))]) rfl rfl ?_
                  rw [show ((nI i) + 1) = nI (i + 1) from nI_add i 1]
                  refine WX.s1 rfl rfl ?_
                  refine WX.keep (y := 41) [0, 1, 2, 3, 4] (show ([0, 1, 2, 3, 4, 5] : List Nat).Nodup by decide) rfl ?_
                  have hst : mFold D (wy way) least e p (p - z) = mFold D (wy way) least e p (p - a) := hfs.trans (mStep_n ?_)
                  rotate_left
                  · rintro ⟨b1, b2⟩
                    first
                      | exact hb b2
                      | omega
                      | (have b3 : (mFold D (wy way) least e p (p - a)).1 < comN D z p (e - p) := by rcases way4 hw with rfl | rfl | rfl | rfl <;> first | omega | exact mBet2.mp b2 | exact mBet3.mp b2
                         exact c_92 ((sb_eqI (hD _ (by omega)).1 (hD _ (by omega)).1).mpr (hco.2.1 _ b3)))
                  refine ih y z (i + 1) hL (by omega) (fun q => (hyh q).trans hEz) (by omega) (by omega) hxx (by omega) (by omega) (by rw [hst]; exact g0) (by rw [hst]; exact g1) (by rw [hst]; exact g2) FR_hL (by rw [hst]; exact F_hL_82)
                · skip
                  show WX _ _ _ 118 [(0, .ref 82), (1, .int (nI p)), (2, .int (nI (p - win))), (3, .int (nI z)), (4, .int (nI i)), (5, .int (nI (comN D z p (e - p))))] [.int 1] (n, s, hL)
                  refine WX.if_ rfl (fun c_118 => absurd c_118 (by decide)) (fun c_118 => ?_)
                  clear c_118
                  refine WX.s1 rfl rfl ?_
                  refine WX.s1 rfl rfl ?_
                  refine WX.put1 (fs := [.ref 83, .int (nI U), .ref 84, .ref 85, .int (nI way), .int (nI least), .int (nI win), .int (nI e), .int (nI (mFold D (wy way) least e p (p - a)).1), .int (nI (rd (mFold D (wy way) least e p (p - a)) p)), .int fap, .int fal, .int fad]) (fs' := [.ref 83, .int (nI U), .ref 84, .ref 85, .int (nI way), .int (nI least), .int (nI win), .int (nI e), .int (nI (comN D z p (e - p))), .int (nI (rd (mFold D (wy way) least e p (p - a)) p)), .int fap, .int fal, .int fad]) rfl (ltN hn (by decide)) (F_hL_82) (Nat.le_of_ble_eq_true rfl) (rfl) rfl (fun h124 e_h124 => ?_)
                  have F_h124_82 : h124 82 = .inr (3, [.ref 83, .int (nI U), .ref 84, .ref 85, .int (nI way), .int (nI least), .int (nI win), .int (nI e), .int (nI (comN D z p (e - p))), .int (nI (rd (mFold D (wy way) least e p (p - a)) p)), .int fap, .int fal, .int fad]) := by rw [e_h124]; exact va_up_eq
                  have F_h124_83 : h124 83 = .inl (0, 16000, .inl dA) := by rw [e_h124, va_up_neq (by decide)]; exact F_hL_83
                  have F_h124_84 : h124 84 = .inl (1, 16000, .inl eA) := by rw [e_h124, va_up_neq (by decide)]; exact F_hL_84
                  have FR_h124 : Fr h h124 (fun j => j = 82) := FR_hL.zup e_h124 (by first | exact rfl | exact Or.inl rfl | exact Or.inr rfl | exact ⟨by decide, by decide⟩ | decide | omega)
                  refine WX.s1 rfl rfl ?_
                  refine WX.s1 rfl rfl ?_
                  refine WX.s1 rfl rfl ?_
                  refine WX.s1 (S' := [.int ((nI p) - (nI z)), .ref 82]) rfl rfl ?_
                  refine WX.put1 (fs := [.ref 83, .int (nI U), .ref 84, .ref 85, .int (nI way), .int (nI least), .int (nI win), .int (nI e), .int (nI (comN D z p (e - p))), .int (nI (rd (mFold D (wy way) least e p (p - a)) p)), .int fap, .int fal, .int fad]) (fs' := [.ref 83, .int (nI U), .ref 84, .ref 85, .int (nI way), .int (nI least), .int (nI win), .int (nI e), .int (nI (comN D z p (e - p))), .int ((nI p) - (nI z)), .int fap, .int fal, .int fad]) rfl (ltN hn (by decide)) (F_h124_82) (Nat.le_of_ble_eq_true rfl) (rfl) rfl (fun h131 e_h131 => ?_)
                  have F_h131_82 : h131 82 = .inr (3, [.ref 83, .int (nI U), .ref 84, .ref 85, .int (nI way), .int (nI least), .int (nI win), .int (nI e), .int (nI (comN D z p (e - p))), .int ((nI p) - (nI z)), .int fap, .int fal, .int fad]) := by rw [e_h131]; exact va_up_eq
                  have F_h131_83 : h131 83 = .inl (0, 16000, .inl dA) := by rw [e_h131, va_up_neq (by decide)]; exact F_h124_83
                  have F_h131_84 : h131 84 = .inl (1, 16000, .inl eA) := by rw [e_h131, va_up_neq (by decide)]; exact F_h124_84
                  have FR_h131 : Fr h h131 (fun j => j = 82) := FR_h124.zup e_h131 (by first | exact rfl | exact Or.inl rfl | exact Or.inr rfl | exact ⟨by decide, by decide⟩ | decide | omega)
                  refine WX.s1 rfl rfl ?_
                  refine WX.s1 rfl rfl ?_
                  refine WX.s1 rfl rfl ?_
                  have hst := hfs.trans (mStep_y (by omega) hb)
                  have F2_82 : h131 82 = .inr (3, [.ref 83, .int (nI U), .ref 84, .ref 85, .int (nI way), .int (nI least), .int (nI win), .int (nI e), .int (nI (mFold D (wy way) least e p (p - z)).1), .int (nI (rd (mFold D (wy way) least e p (p - z)) p)), .int fap, .int fal, .int fad]) := by
                    rw [F_h131_82, hst]
                    show _ = Sum.inr (3, [_, _, _, _, _, _, _, _, Value.int (nI (comN D z p (e - p))), Value.int (nI (if comN D z p (e - p) = 0 then 0 else p - z)), _, _, _])
                    rw [if_neg (by omega), nI_subN (by omega)]
                  refine WX.callC (vs := [.ref 82, .int (nI (comN D z p (e - p))), .int (nI p)]) rfl rfl rfl (Nat.le_of_ble_eq_true rfl) (rcv_ok (ltN hn (by decide)) F2_82) ?_
                  refine x_enough hn hw (by omega) (by omega) (by omega) (by omega) (by omega) F2_82 (fun q0 q1 q2 => ?_) (fun hfx => ?_)
                  · skip
                    clear F_h131_82
                    have F_h131_82 := F2_82
                    show WX _ _ _ 141 [(0, .ref 82), (1, .int (nI p)), (2, .int (nI (p - win))), (3, .int (nI z)), (4, .int (nI i)), (5, .int (nI (comN D z p (e - p))))] [.int 0] (n, s, h131)
                    refine WX.if_ rfl (fun c_141 => ?_) (fun c_141 => absurd (by decide) c_141)
                    clear c_141
                    refine WX.s1 rfl rfl ?_
                    refine WX.get1 (fs := [.ref 83, .int (nI U), .ref 84, .ref 85, .int (nI way), .int (nI least), .int (nI win), .int (nI e), .int (nI (mFold D (wy way) least e p (p - z)).1), .int (nI (rd (mFold D (wy way) least e p (p - z)) p)), .int fap, .int fal, .int fad]) rfl (ltN hn (by decide)) (F_h131_82) rfl ?_
                    refine WX.s1 rfl rfl ?_
                    refine WX.iald1 rfl (Or.inl (ltN hn (by decide))) (F_h131_84) (vp_in_nI (N := 16000) (by omega) (by decide)) ?_
                    rw [nI_clamp (by omega), ey]
                    refine WX.s1 (L' := [(0, .ref 82), (1, .int (nI p)), (2, .int (nI (p - win))), (3, .int (qI y)), (4, .int (nI i)), (5, .int (nI (comN D z p (e - p))))]) rfl rfl ?_
                    refine WX.s1 (L' := [(0, .ref 82), (1, .int (nI p)), (2, .int (nI (p - win))), (3, .int (qI y)), (4, .int ((nI i) + 1)), (5, .int (nI (comN D z p (e - p))))]) rfl rfl ?_
                    rw [show ((nI i) + 1) = nI (i + 1) from nI_add i 1]
                    refine WX.s1 rfl rfl ?_
                    refine WX.keep (y := 41) [0, 1, 2, 3, 4] (show ([0, 1, 2, 3, 4, 5] : List Nat).Nodup by decide) rfl ?_
                    refine ih y z (i + 1) h131 (by omega) (fun q => (hyh q).trans hEz) (by omega) (by omega) hxx (by omega) (by omega) (fun q => absurd q q0) (by rw [hst]; exact q1) (by rw [hst]; exact q2) FR_h131 F_h131_82
                  · skip
                    show WX _ _ _ 141 [(0, .ref 82), (1, .int (nI p)), (2, .int (nI (p - win))), (3, .int (nI z)), (4, .int (nI i)), (5, .int (nI (comN D z p (e - p))))] [.int 1] (n, s, h131)
                    refine WX.if_ rfl (fun c_141 => absurd c_141 (by decide)) (fun c_141 => ?_)
                    refine WX.ret0 rfl (kk h131 FR_h131 ?_)
                    have em : mAt D (wy way) least win e p = mFold D (wy way) least e p (p - z) := by
                      unfold mAt
                      rw [show min p win = (p - z) + (z - (p - win)) by omega]
                      exact mFold_fix D (wy_le hw) (by rw [hst]; exact hfx) _
                    rw [em]
                    exact F2_82
            · skip
              have n_67 : 2 ≤ way := Nat.le_of_not_lt (fun zz_ => c_67 ((nI_ltI (a := way) (b := 2) (by omega) (by omega)).mpr zz_))
              refine WX.s1 rfl rfl ?_
              refine WX.get1 (fs := [.ref 83, .int (nI U), .ref 84, .ref 85, .int (nI way), .int (nI least), .int (nI win), .int (nI e), .int (nI (mFold D (wy way) least e p (p - a)).1), .int (nI (rd (mFold D (wy way) least e p (p - a)) p)), .int fap, .int fal, .int fad]) rfl (ltN hn (by decide)) (F_hL_82) rfl ?_
              refine WX.s1 rfl rfl ?_
              refine WX.s1 rfl rfl ?_
              refine WX.get1 (fs := [.ref 83, .int (nI U), .ref 84, .ref 85, .int (nI way), .int (nI least), .int (nI win), .int (nI e), .int (nI (mFold D (wy way) least e p (p - a)).1), .int (nI (rd (mFold D (wy way) least e p (p - a)) p)), .int fap, .int fal, .int fad]) rfl (ltN hn (by decide)) (F_hL_82) rfl ?_
              refine WX.s1 (S' := [.int ((nI z) + (nI (mFold D (wy way) least e p (p - a)).1)), .ref 83]) rfl rfl ?_
              rw [show ((nI z) + (nI (mFold D (wy way) least e p (p - a)).1)) = nI (z + (mFold D (wy way) least e p (p - a)).1) from nI_add z ((mFold D (wy way) least e p (p - a)).1)]
              refine WX.bald1 rfl (ltN hn (by decide)) (F_hL_83) (vp_in_nI (N := 16000) (by omega) (by decide)) ?_
              rw [nI_clamp (by omega), (hD _ (by omega)).2]
              refine WX.s1 rfl rfl ?_
              refine WX.get1 (fs := [.ref 83, .int (nI U), .ref 84, .ref 85, .int (nI way), .int (nI least), .int (nI win), .int (nI e), .int (nI (mFold D (wy way) least e p (p - a)).1), .int (nI (rd (mFold D (wy way) least e p (p - a)) p)), .int fap, .int fal, .int fad]) rfl (ltN hn (by decide)) (F_hL_82) rfl ?_
              refine WX.s1 rfl rfl ?_
              refine WX.s1 rfl rfl ?_
              refine WX.get1 (fs := [.ref 83, .int (nI U), .ref 84, .ref 85, .int (nI way), .int (nI least), .int (nI win), .int (nI e), .int (nI (mFold D (wy way) least e p (p - a)).1), .int (nI (rd (mFold D (wy way) least e p (p - a)) p)), .int fap, .int fal, .int fad]) rfl (ltN hn (by decide)) (F_hL_82) rfl ?_
              refine WX.s1 (S' := [.int ((nI p) + (nI (mFold D (wy way) least e p (p - a)).1)), .ref 83, .int (sb_b (D (z + (mFold D (wy way) least e p (p - a)).1)))]) rfl rfl ?_
              rw [show ((nI p) + (nI (mFold D (wy way) least e p (p - a)).1)) = nI (p + (mFold D (wy way) least e p (p - a)).1) from nI_add p ((mFold D (wy way) least e p (p - a)).1)]
              refine WX.bald1 rfl (ltN hn (by decide)) (F_hL_83) (vp_in_nI (N := 16000) (by omega) (by decide)) ?_
              rw [nI_clamp (by omega), (hD _ (by omega)).2]
              refine WX.icmp rfl (fun c_92 => ?_) (fun c_92 => ?_)
              · skip
                refine WX.s1 rfl rfl ?_
                refine WX.get1 (fs := [.ref 83, .int (nI U), .ref 84, .ref 85, .int (nI way), .int (nI least), .int (nI win), .int (nI e), .int (nI (mFold D (wy way) least e p (p - a)).1), .int (nI (rd (mFold D (wy way) least e p (p - a)) p)), .int fap, .int fal, .int fad]) rfl (ltN hn (by decide)) (F_hL_82) rfl ?_
                refine WX.s1 rfl rfl ?_
                refine WX.iald1 rfl (Or.inl (ltN hn (by decide))) (F_hL_84) (vp_in_nI (N := 16000) (by omega) (by decide)) ?_
                rw [nI_clamp (by omega), ey]
                refine WX.s1 (L' := [(0, .ref 82), (1, .int (nI p)), (2, .int (nI (p - win))), (3, .int (qI y)), (4, .int (nI i))]) rfl rfl ?_
                refine WX.s1 (L' := [(0, .ref 82), (1, .int (nI p)), (2, .int (nI (p - win))), (3, .int (qI y)), (4, .int ((nI i) + 1))]) rfl rfl ?_
                rw [show ((nI i) + 1) = nI (i + 1) from nI_add i 1]
                refine WX.s1 rfl rfl ?_
                have hst : mFold D (wy way) least e p (p - z) = mFold D (wy way) least e p (p - a) := hfs.trans (mStep_n ?_)
                rotate_left
                · rintro ⟨b1, b2⟩
                  first
                    | exact hb b2
                    | omega
                    | (have b3 : (mFold D (wy way) least e p (p - a)).1 < comN D z p (e - p) := by rcases way4 hw with rfl | rfl | rfl | rfl <;> first | omega | exact mBet2.mp b2 | exact mBet3.mp b2
                       exact c_92 ((sb_eqI (hD _ (by omega)).1 (hD _ (by omega)).1).mpr (hco.2.1 _ b3)))
                refine ih y z (i + 1) hL (by omega) (fun q => (hyh q).trans hEz) (by omega) (by omega) hxx (by omega) (by omega) (by rw [hst]; exact g0) (by rw [hst]; exact g1) (by rw [hst]; exact g2) FR_hL (by rw [hst]; exact F_hL_82)
              · skip
                refine WX.s1 rfl rfl ?_
                refine WX.s1 rfl rfl ?_
                refine WX.s1 rfl rfl ?_
                refine WX.callC (vs := [.ref 82, .int (nI z), .int (nI p)]) rfl rfl rfl (Nat.le_of_ble_eq_true rfl) (rcv_ok (ltN hn (by decide)) F_hL_82) ?_
                refine x_common hn hD hU he (by omega) (by omega) F_hL_82 F_hL_83 (fun k hk => ?_)
                obtain rfl := IsCom.uniq hco hk
                show WX _ _ _ 101 [(0, .ref 82), (1, .int (nI p)), (2, .int (nI (p - win))), (3, .int (nI z)), (4, .int (nI i))] [.int (nI (comN D z p (e - p)))] (n, s, hL)
                have hk1 := hk.1
                refine WX.s1 (L' := [(0, .ref 82), (1, .int (nI p)), (2, .int (nI (p - win))), (3, .int (nI z)), (4, .int (nI i)), (5, .int (nI (comN D z p (e - p))))]) rfl rfl ?_
                refine WX.s1 rfl rfl ?_
                refine WX.s1 rfl rfl ?_
                refine WX.get1 (fs := [.ref 83, .int (nI U), .ref 84, .ref 85, .int (nI way), .int (nI least), .int (nI win), .int (nI e), .int (nI (mFold D (wy way) least e p (p - a)).1), .int (nI (rd (mFold D (wy way) least e p (p - a)) p)), .int fap, .int fal, .int fad]) rfl (ltN hn (by decide)) (F_hL_82) rfl ?_
                refine WX.icmp rfl (fun c_109 => ?_) (fun c_109 => ?_)
                · skip
                  have n_109 : (comN D z p (e - p)) < least := (nI_ltI (a := comN D z p (e - p)) (b := least) (by omega) (by omega)).mp c_109
                  refine WX.s1 rfl rfl ?_
                  refine WX.get1 (fs := [.ref 83, .int (nI U), .ref 84, .ref 85, .int (nI way), .int (nI least), .int (nI win), .int (nI e), .int (nI (mFold D (wy way) least e p (p - a)).1), .int (nI (rd (mFold D (wy way) least e p (p - a)) p)), .int fap, .int fal, .int fad]) rfl (ltN hn (by decide)) (F_hL_82) rfl ?_
                  refine WX.s1 rfl rfl ?_
                  refine WX.iald1 rfl (Or.inl (ltN hn (by decide))) (F_hL_84) (vp_in_nI (N := 16000) (by omega) (by decide)) ?_
                  rw [nI_clamp (by omega), ey]
                  refine WX.s1 (L' := [(0, .ref 82), (1, .int (nI p)), (2, .int (nI (p - win))), (3, .int (qI y)), (4, .int (nI i)), (5, .int (nI (comN D z p (e - p))))]) rfl rfl ?_
                  refine WX.s1 (L' := [(0, .ref 82), (1, .int (nI p)), (2, .int (nI (p - win))), (3, .int (qI y)), (4, .int ((nI i) + 1)), (5, .int (nI (comN D z p (e - p))))]) rfl rfl ?_
                  rw [show ((nI i) + 1) = nI (i + 1) from nI_add i 1]
                  refine WX.s1 rfl rfl ?_
                  refine WX.keep (y := 41) [0, 1, 2, 3, 4] (show ([0, 1, 2, 3, 4, 5] : List Nat).Nodup by decide) rfl ?_
                  have hst : mFold D (wy way) least e p (p - z) = mFold D (wy way) least e p (p - a) := hfs.trans (mStep_n ?_)
                  rotate_left
                  · rintro ⟨b1, b2⟩
                    first
                      | exact hb b2
                      | omega
                      | (have b3 : (mFold D (wy way) least e p (p - a)).1 < comN D z p (e - p) := by rcases way4 hw with rfl | rfl | rfl | rfl <;> first | omega | exact mBet2.mp b2 | exact mBet3.mp b2
                         exact c_92 ((sb_eqI (hD _ (by omega)).1 (hD _ (by omega)).1).mpr (hco.2.1 _ b3)))
                  refine ih y z (i + 1) hL (by omega) (fun q => (hyh q).trans hEz) (by omega) (by omega) hxx (by omega) (by omega) (by rw [hst]; exact g0) (by rw [hst]; exact g1) (by rw [hst]; exact g2) FR_hL (by rw [hst]; exact F_hL_82)
                · skip
                  have n_109 : least ≤ (comN D z p (e - p)) := Nat.le_of_not_lt (fun zz_ => c_109 ((nI_ltI (a := comN D z p (e - p)) (b := least) (by omega) (by omega)).mpr zz_))
                  refine WX.s1 rfl rfl ?_
                  refine WX.s1 rfl rfl ?_
                  refine WX.callC (vs := [.ref 82, .int (nI (comN D z p (e - p)))]) rfl rfl rfl (Nat.le_of_ble_eq_true rfl) (rcv_ok (ltN hn (by decide)) F_hL_82) ?_
                  refine x_better hn hw (by omega) (by omega) g0 g1 (by omega) F_hL_82 (fun hb => ?_) (fun hb => ?_)
                  · skip
                    show WX _ _ _ 118 [(0, .ref 82), (1, .int (nI p)), (2, .int (nI (p - win))), (3, .int (nI z)), (4, .int (nI i)), (5, .int (nI (comN D z p (e - p))))] [.int 0] (n, s, hL)
                    refine WX.if_ rfl (fun c_118 => ?_) (fun c_118 => absurd (by decide) c_118)
                    clear c_118
                    refine WX.s1 rfl rfl ?_
                    refine WX.get1 (fs := [.ref 83, .int (nI U), .ref 84, .ref 85, .int (nI way), .int (nI least), .int (nI win), .int (nI e), .int (nI (mFold D (wy way) least e p (p - a)).1), .int (nI (rd (mFold D (wy way) least e p (p - a)) p)), .int fap, .int fal, .int fad]) rfl (ltN hn (by decide)) (F_hL_82) rfl ?_
                    refine WX.s1 rfl rfl ?_
                    refine WX.iald1 rfl (Or.inl (ltN hn (by decide))) (F_hL_84) (vp_in_nI (N := 16000) (by omega) (by decide)) ?_
                    rw [nI_clamp (by omega), ey]
                    refine WX.s1 (L' := [(0, .ref 82), (1, .int (nI p)), (2, .int (nI (p - win))), (3, .int (qI y)), (4, .int (nI i)), (5, .int (nI (comN D z p (e - p))))]) rfl rfl ?_
                    refine WX.s1 (L' := [(0, .ref 82), (1, .int (nI p)), (2, .int (nI (p - win))), (3, .int (qI y)), (4, .int ((nI i) + 1)), (5, .int (nI (comN D z p (e - p))))]) rfl rfl ?_
                    rw [show ((nI i) + 1) = nI (i + 1) from nI_add i 1]
                    refine WX.s1 rfl rfl ?_
                    refine WX.keep (y := 41) [0, 1, 2, 3, 4] (show ([0, 1, 2, 3, 4, 5] : List Nat).Nodup by decide) rfl ?_
                    have hst : mFold D (wy way) least e p (p - z) = mFold D (wy way) least e p (p - a) := hfs.trans (mStep_n ?_)
                    rotate_left
                    · rintro ⟨b1, b2⟩
                      first
                        | exact hb b2
                        | omega
                        | (have b3 : (mFold D (wy way) least e p (p - a)).1 < comN D z p (e - p) := by rcases way4 hw with rfl | rfl | rfl | rfl <;> first | omega | exact mBet2.mp b2 | exact mBet3.mp b2
                           exact c_92 ((sb_eqI (hD _ (by omega)).1 (hD _ (by omega)).1).mpr (hco.2.1 _ b3)))
                    refine ih y z (i + 1) hL (by omega) (fun q => (hyh q).trans hEz) (by omega) (by omega) hxx (by omega) (by omega) (by rw [hst]; exact g0) (by rw [hst]; exact g1) (by rw [hst]; exact g2) FR_hL (by rw [hst]; exact F_hL_82)
                  · skip
                    show WX _ _ _ 118 [(0, .ref 82), (1, .int (nI p)), (2, .int (nI (p - win))), (3, .int (nI z)), (4, .int (nI i)), (5, .int (nI (comN D z p (e - p))))] [.int 1] (n, s, hL)
                    refine WX.if_ rfl (fun c_118 => absurd c_118 (by decide)) (fun c_118 => ?_)
                    clear c_118
                    refine WX.s1 rfl rfl ?_
                    refine WX.s1 rfl rfl ?_
                    refine WX.put1 (fs := [.ref 83, .int (nI U), .ref 84, .ref 85, .int (nI way), .int (nI least), .int (nI win), .int (nI e), .int (nI (mFold D (wy way) least e p (p - a)).1), .int (nI (rd (mFold D (wy way) least e p (p - a)) p)), .int fap, .int fal, .int fad]) (fs' := [.ref 83, .int (nI U), .ref 84, .ref 85, .int (nI way), .int (nI least), .int (nI win), .int (nI e), .int (nI (comN D z p (e - p))), .int (nI (rd (mFold D (wy way) least e p (p - a)) p)), .int fap, .int fal, .int fad]) rfl (ltN hn (by decide)) (F_hL_82) (Nat.le_of_ble_eq_true rfl) (rfl) rfl (fun h124 e_h124 => ?_)
                    have F_h124_82 : h124 82 = .inr (3, [.ref 83, .int (nI U), .ref 84, .ref 85, .int (nI way), .int (nI least), .int (nI win), .int (nI e), .int (nI (comN D z p (e - p))), .int (nI (rd (mFold D (wy way) least e p (p - a)) p)), .int fap, .int fal, .int fad]) := by rw [e_h124]; exact va_up_eq
                    have F_h124_83 : h124 83 = .inl (0, 16000, .inl dA) := by rw [e_h124, va_up_neq (by decide)]; exact F_hL_83
                    have F_h124_84 : h124 84 = .inl (1, 16000, .inl eA) := by rw [e_h124, va_up_neq (by decide)]; exact F_hL_84
                    have FR_h124 : Fr h h124 (fun j => j = 82) := FR_hL.zup e_h124 (by first | exact rfl | exact Or.inl rfl | exact Or.inr rfl | exact ⟨by decide, by decide⟩ | decide | omega)
                    refine WX.s1 rfl rfl ?_
                    refine WX.s1 rfl rfl ?_
                    refine WX.s1 rfl rfl ?_
                    refine WX.s1 (S' := [.int ((nI p) - (nI z)), .ref 82]) rfl rfl ?_
                    refine WX.put1 (fs := [.ref 83, .int (nI U), .ref 84, .ref 85, .int (nI way), .int (nI least), .int (nI win), .int (nI e), .int (nI (comN D z p (e - p))), .int (nI (rd (mFold D (wy way) least e p (p - a)) p)), .int fap, .int fal, .int fad]) (fs' := [.ref 83, .int (nI U), .ref 84, .ref 85, .int (nI way), .int (nI least), .int (nI win), .int (nI e), .int (nI (comN D z p (e - p))), .int ((nI p) - (nI z)), .int fap, .int fal, .int fad]) rfl (ltN hn (by decide)) (F_h124_82) (Nat.le_of_ble_eq_true rfl) (rfl) rfl (fun h131 e_h131 => ?_)
                    have F_h131_82 : h131 82 = .inr (3, [.ref 83, .int (nI U), .ref 84, .ref 85, .int (nI way), .int (nI least), .int (nI win), .int (nI e), .int (nI (comN D z p (e - p))), .int ((nI p) - (nI z)), .int fap, .int fal, .int fad]) := by rw [e_h131]; exact va_up_eq
                    have F_h131_83 : h131 83 = .inl (0, 16000, .inl dA) := by rw [e_h131, va_up_neq (by decide)]; exact F_h124_83
                    have F_h131_84 : h131 84 = .inl (1, 16000, .inl eA) := by rw [e_h131, va_up_neq (by decide)]; exact F_h124_84
                    have FR_h131 : Fr h h131 (fun j => j = 82) := FR_h124.zup e_h131 (by first | exact rfl | exact Or.inl rfl | exact Or.inr rfl | exact ⟨by decide, by decide⟩ | decide | omega)
                    refine WX.s1 rfl rfl ?_
                    refine WX.s1 rfl rfl ?_
                    refine WX.s1 rfl rfl ?_
                    have hst := hfs.trans (mStep_y (by omega) hb)
                    have F2_82 : h131 82 = .inr (3, [.ref 83, .int (nI U), .ref 84, .ref 85, .int (nI way), .int (nI least), .int (nI win), .int (nI e), .int (nI (mFold D (wy way) least e p (p - z)).1), .int (nI (rd (mFold D (wy way) least e p (p - z)) p)), .int fap, .int fal, .int fad]) := by
                      rw [F_h131_82, hst]
                      show _ = Sum.inr (3, [_, _, _, _, _, _, _, _, Value.int (nI (comN D z p (e - p))), Value.int (nI (if comN D z p (e - p) = 0 then 0 else p - z)), _, _, _])
                      rw [if_neg (by omega), nI_subN (by omega)]
                    refine WX.callC (vs := [.ref 82, .int (nI (comN D z p (e - p))), .int (nI p)]) rfl rfl rfl (Nat.le_of_ble_eq_true rfl) (rcv_ok (ltN hn (by decide)) F2_82) ?_
                    refine x_enough hn hw (by omega) (by omega) (by omega) (by omega) (by omega) F2_82 (fun q0 q1 q2 => ?_) (fun hfx => ?_)
                    · skip
                      clear F_h131_82
                      have F_h131_82 := F2_82
                      show WX _ _ _ 141 [(0, .ref 82), (1, .int (nI p)), (2, .int (nI (p - win))), (3, .int (nI z)), (4, .int (nI i)), (5, .int (nI (comN D z p (e - p))))] [.int 0] (n, s, h131)
                      refine WX.if_ rfl (fun c_141 => ?_) (fun c_141 => absurd (by decide) c_141)
                      clear c_141
                      refine WX.s1 rfl rfl ?_
                      refine WX.get1 (fs := [.ref 83, .int (nI U), .ref 84, .ref 85, .int (nI way), .int (nI least), .int (nI win), .int (nI e), .int (nI (mFold D (wy way) least e p (p - z)).1), .int (nI (rd (mFold D (wy way) least e p (p - z)) p)), .int fap, .int fal, .int fad]) rfl (ltN hn (by decide)) (F_h131_82) rfl ?_
                      refine WX.s1 rfl rfl ?_
                      refine WX.iald1 rfl (Or.inl (ltN hn (by decide))) (F_h131_84) (vp_in_nI (N := 16000) (by omega) (by decide)) ?_
                      rw [nI_clamp (by omega), ey]
                      refine WX.s1 (L' := [(0, .ref 82), (1, .int (nI p)), (2, .int (nI (p - win))), (3, .int (qI y)), (4, .int (nI i)), (5, .int (nI (comN D z p (e - p))))]) rfl rfl ?_
                      refine WX.s1 (L' := [(0, .ref 82), (1, .int (nI p)), (2, .int (nI (p - win))), (3, .int (qI y)), (4, .int ((nI i) + 1)), (5, .int (nI (comN D z p (e - p))))]) rfl rfl ?_
                      rw [show ((nI i) + 1) = nI (i + 1) from nI_add i 1]
                      refine WX.s1 rfl rfl ?_
                      refine WX.keep (y := 41) [0, 1, 2, 3, 4] (show ([0, 1, 2, 3, 4, 5] : List Nat).Nodup by decide) rfl ?_
                      refine ih y z (i + 1) h131 (by omega) (fun q => (hyh q).trans hEz) (by omega) (by omega) hxx (by omega) (by omega) (fun q => absurd q q0) (by rw [hst]; exact q1) (by rw [hst]; exact q2) FR_h131 F_h131_82
                    · skip
                      show WX _ _ _ 141 [(0, .ref 82), (1, .int (nI p)), (2, .int (nI (p - win))), (3, .int (nI z)), (4, .int (nI i)), (5, .int (nI (comN D z p (e - p))))] [.int 1] (n, s, h131)
                      refine WX.if_ rfl (fun c_141 => absurd c_141 (by decide)) (fun c_141 => ?_)
                      refine WX.ret0 rfl (kk h131 FR_h131 ?_)
                      have em : mAt D (wy way) least win e p = mFold D (wy way) least e p (p - z) := by
                        unfold mAt
                        rw [show min p win = (p - z) + (z - (p - win)) by omega]
                        exact mFold_fix D (wy_le hw) (by rw [hst]; exact hfx) _
                      rw [em]
                      exact F2_82
    exact lp z0 z0 p 0 h7 (Nat.le_refl _) hzh hz0 (Nat.le_refl _) hzx (by omega) (by omega) (fun _ => by rw [Nat.sub_self]; rfl) (fun _ => by rw [Nat.sub_self]; exact Nat.succ_pos 7) (by rw [Nat.sub_self]; show p + 0 < e; omega) FR_h7 (by rw [F_h7_82, Nat.sub_self]; rfl)
  · skip
    have n_24 : e < (p + least) := Nat.lt_of_not_le (fun zz_ => c_24 ((nI_leI (a := p + least) (b := e) (by omega) (by omega)).mpr zz_))
    refine WX.ret0 rfl (kk h7 FR_h7 ?_)
    have e0 : (mAt D (wy way) least win e p).1 = 0 := mAt_none (by omega) (by omega)
    have e1 : rd (mAt D (wy way) least win e p) p = 0 := if_pos e0
    rw [F_h7_82, e0, e1]
    rfl
