/-! the finder loaded -/
def hsI (a b c : Nat) : Int32 := ((((((nI a) ||| ((nI b) <<< (8 &&& 31))) ||| ((nI c) <<< (16 &&& 31))) * (-1640531535)).toUInt32 >>> (Int32.toUInt32 20 &&& Int32.toUInt32 31)).toInt32)
def hsN (a b c : Nat) : Nat := (hsI a b c).toNatClampNeg
theorem u32_shr20 (x : UInt32) : ((x >>> (Int32.toUInt32 20 &&& Int32.toUInt32 31)).toInt32).toNatClampNeg < 4096 ∧ (x >>> (Int32.toUInt32 20 &&& Int32.toUInt32 31)).toInt32 = nI ((x >>> (Int32.toUInt32 20 &&& Int32.toUInt32 31)).toInt32).toNatClampNeg := by
  obtain ⟨y, hy⟩ : ∃ y, y = x >>> (Int32.toUInt32 20 &&& Int32.toUInt32 31) := ⟨_, rfl⟩
  rw [← hy]
  have h1 : (y).toNat < 4096 := by
    rw [hy, show (Int32.toUInt32 20 &&& Int32.toUInt32 31) = 20 from rfl, UInt32.toNat_shiftRight]
    have := (x).toNat_lt
    rw [show (20 : UInt32).toNat % 32 = 20 from rfl, Nat.shiftRight_eq_div_pow]
    omega
  have e : (y).toInt32 = nI (y).toNat := by
    apply Int32.toBitVec_inj.mp
    show (y).toBitVec = BitVec.ofNat 32 (y).toNat
    exact (BitVec.ofNat_toNat 32 (y).toBitVec |>.trans (by simp)).symm
  rw [e, nI_clamp (by omega)]
  exact ⟨h1, rfl⟩
theorem hsI_eq (a b c : Nat) : hsI a b c = nI (hsN a b c) ∧ hsN a b c < 4096 := ⟨(u32_shr20 _).2, (u32_shr20 _).1⟩
def hsD (D : Nat → Nat) (p : Nat) : Nat := hsN (D p) (D (p + 1)) (D (p + 2))
theorem hsD_ok (D : Nat → Nat) : HashOk D (hsD D) := fun a b h1 h2 h3 => by unfold hsD; rw [h1, h2, h3]
def HdI (D : Nat → Nat) (U p : Nat) (g : Nat → Int32) : Prop := ∀ x, x < 4096 → ∃ z, z ≤ p ∧ g x = qI z ∧ (z ≠ 0 → hsD D (z - 1) = x) ∧ ∀ y, z ≤ y → y < p → y + 2 < U → hsD D y ≠ x
def ChI (D : Nat → Nat) (U p : Nat) (E : Nat → Int32) : Prop := ∀ q, q < p → q + 2 < U → ∃ z, z ≤ q ∧ E q = qI z ∧ (z ≠ 0 → hsD D (z - 1) = hsD D q) ∧ ∀ x, z ≤ x → x < q → hsD D x ≠ hsD D q
theorem HdI.st {D : Nat → Nat} {U p : Nat} {g : Nat → Int32} (h : HdI D U p g) : HdI D U (p + 1) (upd g (hsD D p) (nI p)) := fun x hx => by
  by_cases e : x = hsD D p
  · refine ⟨p + 1, Nat.le_refl _, ?_, fun _ => by rw [e]; rfl, fun y h1 h2 _ => absurd h2 (by omega)⟩
    rw [e, pk_us]
    unfold qI
    rw [if_neg (by omega)]
    rfl
  · obtain ⟨z, a, b, c, d⟩ := h x hx
    refine ⟨z, by omega, by rw [pk_un e]; exact b, c, fun y h1 h2 h3 => ?_⟩
    by_cases q : y = p
    · rw [q]; exact fun z => e (z).symm
    · exact d y h1 (by omega) h3
theorem HdI.no {D : Nat → Nat} {U p : Nat} {g : Nat → Int32} (h : HdI D U p g) (hp : U ≤ p + 2) : HdI D U (p + 1) g := fun x hx => by
  obtain ⟨z, a, b, c, d⟩ := h x hx
  exact ⟨z, by omega, b, c, fun y h1 h2 h3 => d y h1 (by omega) h3⟩
theorem ChI.st {D : Nat → Nat} {U p : Nat} {g E : Nat → Int32} (h : ChI D U p E) (hg : HdI D U p g) (hp : p + 2 < U) : ChI D U (p + 1) (upd E p (g (hsD D p))) := fun q hq hq2 => by
  by_cases e : q = p
  · obtain ⟨z, a, b, c, d⟩ := hg (hsD D p) (hsI_eq _ _ _).2
    refine ⟨z, by omega, by rw [e, pk_us]; exact b, by rw [e]; exact c, fun x h1 h2 => by rw [e]; exact d x h1 (by omega) (by omega)⟩
  · rw [pk_un e]; exact h q (by omega) hq2
theorem ChI.no {D : Nat → Nat} {U p : Nat} {v : Int32} {E : Nat → Int32} (h : ChI D U p E) (hp : U ≤ p + 2) : ChI D U (p + 1) (upd E p v) := fun q hq hq2 => by
  rw [pk_un (show q ≠ p by omega)]; exact h q (by omega) hq2
def FiZ (h : Nat → aE) : Prop := ∃ (fu fw fl fwi fe fle fdi fap fal fad : Int32) (dA eA hA : Nat → Int32), h 82 = .inr (3, [.ref 83, .int fu, .ref 84, .ref 85, .int fw, .int fl, .int fwi, .int fe, .int fle, .int fdi, .int fap, .int fal, .int fad]) ∧ h 83 = .inl (0, 16000, .inl dA) ∧ h 84 = .inl (1, 16000, .inl eA) ∧ h 85 = .inl (1, 4096, .inl hA)
theorem FiX.toZ {h : Nat → aE} {D H : Nat → Nat} {U way least win : Nat} (r : FiX h D H U way least win) : FiZ h := by
  obtain ⟨fe, fle, fdi, fap, fal, fad, dA, eA, hA, a, b, c, d, e⟩ := r
  exact ⟨_, _, _, _, fe, fle, fdi, fap, fal, fad, dA, eA, hA, a, b, c, d⟩
theorem FiZ.zfr {h h1 : Nat → aE} {A : Nat → Prop} (r : FiZ h) (f : Fr h h1 A) (q : ∀ x, 82 ≤ x → x ≤ 85 → ¬ A x) : FiZ h1 := by
  obtain ⟨fu, fw, fl, fwi, fe, fle, fdi, fap, fal, fad, dA, eA, hA, a, b, c, d⟩ := r
  exact ⟨fu, fw, fl, fwi, fe, fle, fdi, fap, fal, fad, dA, eA, hA, (f _ (q _ (by omega) (by omega))).trans a, (f _ (q _ (by omega) (by omega))).trans b, (f _ (q _ (by omega) (by omega))).trans c, (f _ (q _ (by omega) (by omega))).trans d⟩
set_option maxRecDepth 20000 in
theorem x_loadL {d n s : Nat} {h : Nat → aE} {a b N1 N2 : Nat} {l1 l2 : List Nat} {fu fw fl fwi fe fle fdi fap fal fad : Int32} {dA eA hA : Nat → Int32} {ho1 ho2 : Int64} {hd1 hd2 : Int32} {g1 g2 : Nat → Int32} (hn : 190 ≤ n) (ha : a + 1 < 82) (hb : b + 1 < 82) (hN1 : N1 < 2 ^ 30) (hN2 : N2 < 2 ^ 30) (hL1 : (l1).length ≤ N1) (hL2 : (l2).length ≤ N2) (hU : (l1).length + (l2).length ≤ 16000) (hg1 : ∀ i, i < (l1).length → (l1).getD i 0 < 256 ∧ g1 i = sb_b ((l1).getD i 0)) (hg2 : ∀ i, i < (l2).length → (l2).getD i 0 < 256 ∧ g2 i = sb_b ((l2).getD i 0)) (F_h_82 : h 82 = .inr (3, [.ref 83, .int fu, .ref 84, .ref 85, .int fw, .int fl, .int fwi, .int fe, .int fle, .int fdi, .int fap, .int fal, .int fad])) (F_h_83 : h 83 = .inl (0, 16000, .inl dA)) (F_h_84 : h 84 = .inl (1, 16000, .inl eA)) (F_h_85 : h 85 = .inl (1, 4096, .inl hA)) (F_h_a : h a = .inr (7, [.ref (a + 1), .int (nI (l1).length), .int 0, .long ho1, .int hd1])) (F_h__a_1_ : h (a + 1) = .inl (0, N1, .inl g1)) (F_h_b : h b = .inr (7, [.ref (b + 1), .int (nI (l2).length), .int 0, .long ho2, .int hd2])) (F_h__b_1_ : h (b + 1) = .inl (0, N2, .inl g2))  {Ψ : Option Value → aH → Prop} (kk : ∀ h' dA' eA' hA', Fr h h' (fun j => 82 ≤ j ∧ j ≤ 85) → h' 82 = .inr (3, [.ref 83, .int (nI ((l1).length + (l2).length)), .ref 84, .ref 85, .int fw, .int fl, .int fwi, .int fe, .int fle, .int fdi, .int fap, .int fal, .int fad]) → h' 83 = .inl (0, 16000, .inl dA') → h' 84 = .inl (1, 16000, .inl eA') → h' 85 = .inl (1, 4096, .inl hA') → (∀ i, i < (l1).length + (l2).length → (l1 ++ l2).getD i 0 < 256 ∧ dA' i = sb_b ((l1 ++ l2).getD i 0)) → ChainAt (hsD (fun i => (l1 ++ l2).getD i 0)) ((l1).length + (l2).length) eA' → Ψ none (n, s, h')) : WO (mM (d + 2)) 33 [.ref 82, .ref a, .ref b] (n, s, h) Ψ := by
  refine WO.of (Nat.le_of_ble_eq_true rfl) ?_
  have FR_h : Fr h h (fun j => 82 ≤ j ∧ j ≤ 85) := Fr.rf
  show WX (lk tX3_load) (mM (d + 1)) Ψ 0 [(0, .ref 82), (1, .ref a), (2, .ref b)] [] (n, s, h)
  refine WX.s1 rfl rfl ?_
  refine WX.s1 rfl rfl ?_
  refine WX.get1 (fs := [.ref (a + 1), .int (nI (l1).length), .int 0, .long ho1, .int hd1]) rfl (by omega) (F_h_a) rfl ?_
  refine WX.s1 rfl rfl ?_
  refine WX.get1 (fs := [.ref (b + 1), .int (nI (l2).length), .int 0, .long ho2, .int hd2]) rfl (by omega) (F_h_b) rfl ?_
  refine WX.s1 (S' := [.int ((nI (l1).length) + (nI (l2).length)), .ref 82]) rfl rfl ?_
  rw [show ((nI (l1).length) + (nI (l2).length)) = nI ((l1).length + (l2).length) from nI_add (l1).length (l2).length]
  refine WX.put1 (fs := [.ref 83, .int fu, .ref 84, .ref 85, .int fw, .int fl, .int fwi, .int fe, .int fle, .int fdi, .int fap, .int fal, .int fad]) (fs' := [.ref 83, .int (nI ((l1).length + (l2).length)), .ref 84, .ref 85, .int fw, .int fl, .int fwi, .int fe, .int fle, .int fdi, .int fap, .int fal, .int fad]) rfl (ltN hn (by decide)) (F_h_82) (Nat.le_of_ble_eq_true rfl) (rfl) rfl (fun h10 e_h10 => ?_)
  have F_h10_82 : h10 82 = .inr (3, [.ref 83, .int (nI ((l1).length + (l2).length)), .ref 84, .ref 85, .int fw, .int fl, .int fwi, .int fe, .int fle, .int fdi, .int fap, .int fal, .int fad]) := by rw [e_h10]; exact va_up_eq
  have F_h10_83 : h10 83 = .inl (0, 16000, .inl dA) := by rw [e_h10, va_up_neq (by decide)]; exact F_h_83
  have F_h10_84 : h10 84 = .inl (1, 16000, .inl eA) := by rw [e_h10, va_up_neq (by decide)]; exact F_h_84
  have F_h10_85 : h10 85 = .inl (1, 4096, .inl hA) := by rw [e_h10, va_up_neq (by decide)]; exact F_h_85
  have F_h10_a : h10 a = .inr (7, [.ref (a + 1), .int (nI (l1).length), .int 0, .long ho1, .int hd1]) := by rw [e_h10, va_up_neq (by omega)]; exact F_h_a
  have F_h10__a_1_ : h10 (a + 1) = .inl (0, N1, .inl g1) := by rw [e_h10, va_up_neq (by omega)]; exact F_h__a_1_
  have F_h10_b : h10 b = .inr (7, [.ref (b + 1), .int (nI (l2).length), .int 0, .long ho2, .int hd2]) := by rw [e_h10, va_up_neq (by omega)]; exact F_h_b
  have F_h10__b_1_ : h10 (b + 1) = .inl (0, N2, .inl g2) := by rw [e_h10, va_up_neq (by omega)]; exact F_h__b_1_
  have FR_h10 : Fr h h10 (fun j => 82 ≤ j ∧ j ≤ 85) := (FR_h).zup e_h10 (by first | exact rfl | exact Or.inl rfl | exact Or.inr rfl | exact ⟨by decide, by decide⟩ | decide | omega)
  clear F_h_82 F_h_83 F_h_84 F_h_85 F_h_a F_h__a_1_ F_h_b F_h__b_1_ FR_h e_h10
  refine WX.s1 rfl rfl ?_
  refine WX.get1 (fs := [.ref 83, .int (nI ((l1).length + (l2).length)), .ref 84, .ref 85, .int fw, .int fl, .int fwi, .int fe, .int fle, .int fdi, .int fap, .int fal, .int fad]) rfl (ltN hn (by decide)) (F_h10_82) rfl ?_
  refine WX.s1 rfl rfl ?_
  refine WX.get1 (fs := [.ref 83, .int (nI ((l1).length + (l2).length)), .ref 84, .ref 85, .int fw, .int fl, .int fwi, .int fe, .int fle, .int fdi, .int fap, .int fal, .int fad]) rfl (ltN hn (by decide)) (F_h10_82) rfl ?_
  refine WX.len1 rfl (Or.inl ⟨ltN hn (by decide), by decide⟩) (F_h10_83) ?_
  refine WX.icmp rfl (fun c_22 => ?_) (fun c_22 => absurd ((nI_leI (a := (l1).length + (l2).length) (b := 16000) (by omega) (by omega)).mpr (by omega)) c_22)
  clear c_22
  refine WX.s1 rfl rfl ?_
  refine WX.get1 (fs := [.ref (a + 1), .int (nI (l1).length), .int 0, .long ho1, .int hd1]) rfl (by omega) (F_h10_a) rfl ?_
  refine WX.s1 rfl rfl ?_
  refine WX.s1 rfl rfl ?_
  refine WX.get1 (fs := [.ref 83, .int (nI ((l1).length + (l2).length)), .ref 84, .ref 85, .int fw, .int fl, .int fwi, .int fe, .int fle, .int fdi, .int fap, .int fal, .int fad]) rfl (ltN hn (by decide)) (F_h10_82) rfl ?_
  refine WX.s1 rfl rfl ?_
  refine WX.s1 rfl rfl ?_
  refine WX.get1 (fs := [.ref (a + 1), .int (nI (l1).length), .int 0, .long ho1, .int hd1]) rfl (by omega) (F_h10_a) rfl ?_
  refine WX.copyN rfl (Nat.le_of_ble_eq_true rfl) (Or.inl (by omega)) (F_h10__a_1_) (ltN hn (by decide)) (F_h10_83) (p := 0) (q := 0) (c := (l1).length) rfl rfl rfl (by omega) (by omega) (by omega) (by decide) (fun g45 h45 e_g45 e_h45 => ?_)
  have F_h45_82 : h45 82 = .inr (3, [.ref 83, .int (nI ((l1).length + (l2).length)), .ref 84, .ref 85, .int fw, .int fl, .int fwi, .int fe, .int fle, .int fdi, .int fap, .int fal, .int fad]) := by rw [e_h45, va_up_neq (by decide)]; exact F_h10_82
  have F_h45_83 : h45 83 = .inl (0, 16000, .inl g45) := by rw [e_h45]; exact va_up_eq
  have F_h45_84 : h45 84 = .inl (1, 16000, .inl eA) := by rw [e_h45, va_up_neq (by decide)]; exact F_h10_84
  have F_h45_85 : h45 85 = .inl (1, 4096, .inl hA) := by rw [e_h45, va_up_neq (by decide)]; exact F_h10_85
  have F_h45_a : h45 a = .inr (7, [.ref (a + 1), .int (nI (l1).length), .int 0, .long ho1, .int hd1]) := by rw [e_h45, va_up_neq (by omega)]; exact F_h10_a
  have F_h45__a_1_ : h45 (a + 1) = .inl (0, N1, .inl g1) := by rw [e_h45, va_up_neq (by omega)]; exact F_h10__a_1_
  have F_h45_b : h45 b = .inr (7, [.ref (b + 1), .int (nI (l2).length), .int 0, .long ho2, .int hd2]) := by rw [e_h45, va_up_neq (by omega)]; exact F_h10_b
  have F_h45__b_1_ : h45 (b + 1) = .inl (0, N2, .inl g2) := by rw [e_h45, va_up_neq (by omega)]; exact F_h10__b_1_
  have FR_h45 : Fr h h45 (fun j => 82 ≤ j ∧ j ≤ 85) := (FR_h10).zup e_h45 (by first | exact rfl | exact Or.inl rfl | exact Or.inr rfl | exact ⟨by decide, by decide⟩ | decide | omega)
  clear F_h10_82 F_h10_83 F_h10_84 F_h10_85 F_h10_a F_h10__a_1_ F_h10_b F_h10__b_1_ FR_h10 e_h45
  refine WX.s1 rfl rfl ?_
  refine WX.get1 (fs := [.ref (b + 1), .int (nI (l2).length), .int 0, .long ho2, .int hd2]) rfl (by omega) (F_h45_b) rfl ?_
  refine WX.s1 rfl rfl ?_
  refine WX.s1 rfl rfl ?_
  refine WX.get1 (fs := [.ref 83, .int (nI ((l1).length + (l2).length)), .ref 84, .ref 85, .int fw, .int fl, .int fwi, .int fe, .int fle, .int fdi, .int fap, .int fal, .int fad]) rfl (ltN hn (by decide)) (F_h45_82) rfl ?_
  refine WX.s1 rfl rfl ?_
  refine WX.get1 (fs := [.ref (a + 1), .int (nI (l1).length), .int 0, .long ho1, .int hd1]) rfl (by omega) (F_h45_a) rfl ?_
  refine WX.s1 rfl rfl ?_
  refine WX.get1 (fs := [.ref (b + 1), .int (nI (l2).length), .int 0, .long ho2, .int hd2]) rfl (by omega) (F_h45_b) rfl ?_
  refine WX.copyN rfl (Nat.le_of_ble_eq_true rfl) (Or.inl (by omega)) (F_h45__b_1_) (ltN hn (by decide)) (F_h45_83) (p := 0) (q := (l1).length) (c := (l2).length) rfl rfl rfl (by omega) (by omega) (by omega) (by decide) (fun g65 h65 e_g65 e_h65 => ?_)
  have F_h65_82 : h65 82 = .inr (3, [.ref 83, .int (nI ((l1).length + (l2).length)), .ref 84, .ref 85, .int fw, .int fl, .int fwi, .int fe, .int fle, .int fdi, .int fap, .int fal, .int fad]) := by rw [e_h65, va_up_neq (by decide)]; exact F_h45_82
  have F_h65_83 : h65 83 = .inl (0, 16000, .inl g65) := by rw [e_h65]; exact va_up_eq
  have F_h65_84 : h65 84 = .inl (1, 16000, .inl eA) := by rw [e_h65, va_up_neq (by decide)]; exact F_h45_84
  have F_h65_85 : h65 85 = .inl (1, 4096, .inl hA) := by rw [e_h65, va_up_neq (by decide)]; exact F_h45_85
  have F_h65_a : h65 a = .inr (7, [.ref (a + 1), .int (nI (l1).length), .int 0, .long ho1, .int hd1]) := by rw [e_h65, va_up_neq (by omega)]; exact F_h45_a
  have F_h65__a_1_ : h65 (a + 1) = .inl (0, N1, .inl g1) := by rw [e_h65, va_up_neq (by omega)]; exact F_h45__a_1_
  have F_h65_b : h65 b = .inr (7, [.ref (b + 1), .int (nI (l2).length), .int 0, .long ho2, .int hd2]) := by rw [e_h65, va_up_neq (by omega)]; exact F_h45_b
  have F_h65__b_1_ : h65 (b + 1) = .inl (0, N2, .inl g2) := by rw [e_h65, va_up_neq (by omega)]; exact F_h45__b_1_
  have FR_h65 : Fr h h65 (fun j => 82 ≤ j ∧ j ≤ 85) := (FR_h45).zup e_h65 (by first | exact rfl | exact Or.inl rfl | exact Or.inr rfl | exact ⟨by decide, by decide⟩ | decide | omega)
  clear F_h45_82 F_h45_83 F_h45_84 F_h45_85 F_h45_a F_h45__a_1_ F_h45_b F_h45__b_1_ FR_h45 e_h65
  have hdA : ∀ i, i < (l1).length + (l2).length → (l1 ++ l2).getD i 0 < 256 ∧ g65 i = sb_b ((l1 ++ l2).getD i 0) := fun i hi => by
    rw [e_g65, e_g45]
    unfold va_cpy
    by_cases q : i < (l1).length
    · rw [if_neg (by omega), if_pos ⟨by omega, by omega⟩, getD_l q]
      have z := hg1 i q
      rw [show 0 + (i - 0) = i by omega]; exact z
    · rw [if_pos ⟨by omega, by omega⟩, getD_r (by omega)]
      have z := hg2 (i - (l1).length) (by omega)
      rw [show 0 + (i - (l1).length) = i - (l1).length by omega]; exact z
  clear e_g65 e_g45
  refine WX.s1 rfl rfl ?_
  refine WX.get1 (fs := [.ref 83, .int (nI ((l1).length + (l2).length)), .ref 84, .ref 85, .int fw, .int fl, .int fwi, .int fe, .int fle, .int fdi, .int fap, .int fal, .int fad]) rfl (ltN hn (by decide)) (F_h65_82) rfl ?_
  refine WX.s1 rfl rfl ?_
  refine WX.callC (vs := [.ref 85, .int (-1)]) rfl rfl rfl (Nat.le_of_ble_eq_true rfl) rfl ?_
  refine w_fill (d := d) (by omega) F_h65_85 (by decide) (fun h73 gF fr73 F_h73_85 hgF => ?_)
  have F_h73_82 : h73 82 = .inr (3, [.ref 83, .int (nI ((l1).length + (l2).length)), .ref 84, .ref 85, .int fw, .int fl, .int fwi, .int fe, .int fle, .int fdi, .int fap, .int fal, .int fad]) := (fr73 _ (by first | decide | omega)).trans F_h65_82
  have F_h73_83 : h73 83 = .inl (0, 16000, .inl g65) := (fr73 _ (by first | decide | omega)).trans F_h65_83
  have F_h73_84 : h73 84 = .inl (1, 16000, .inl eA) := (fr73 _ (by first | decide | omega)).trans F_h65_84
  have F_h73_a : h73 a = .inr (7, [.ref (a + 1), .int (nI (l1).length), .int 0, .long ho1, .int hd1]) := (fr73 _ (by omega)).trans F_h65_a
  have F_h73__a_1_ : h73 (a + 1) = .inl (0, N1, .inl g1) := (fr73 _ (by omega)).trans F_h65__a_1_
  have F_h73_b : h73 b = .inr (7, [.ref (b + 1), .int (nI (l2).length), .int 0, .long ho2, .int hd2]) := (fr73 _ (by omega)).trans F_h65_b
  have F_h73__b_1_ : h73 (b + 1) = .inl (0, N2, .inl g2) := (fr73 _ (by omega)).trans F_h65__b_1_
  have FR_h73 : Fr h h73 (fun j => 82 ≤ j ∧ j ≤ 85) := (FR_h65).zsub fr73 (fun j hj => by first | exact hj | exact Or.inl hj | exact Or.inr hj | omega)
  show WX _ _ _ 76 [(0, .ref 82), (1, .ref a), (2, .ref b)] [] (n, s, h73)
  refine WX.s1 rfl rfl ?_
  refine WX.s1 (L' := [(0, .ref 82), (1, .ref a), (2, .ref b), (3, .int 0)]) rfl rfl ?_
  have lp : ∀ (t p : Nat) (hL : Nat → aE) (eL hL_ : Nat → Int32), p + t = ((l1).length + (l2).length) → Fr h hL (fun j => 82 ≤ j ∧ j ≤ 85) → hL 82 = .inr (3, [.ref 83, .int (nI ((l1).length + (l2).length)), .ref 84, .ref 85, .int fw, .int fl, .int fwi, .int fe, .int fle, .int fdi, .int fap, .int fal, .int fad]) → hL 83 = .inl (0, 16000, .inl g65) → hL 84 = .inl (1, 16000, .inl eL) → hL 85 = .inl (1, 4096, .inl hL_) → hL a = .inr (7, [.ref (a + 1), .int (nI (l1).length), .int 0, .long ho1, .int hd1]) → hL (a + 1) = .inl (0, N1, .inl g1) → hL b = .inr (7, [.ref (b + 1), .int (nI (l2).length), .int 0, .long ho2, .int hd2]) → hL (b + 1) = .inl (0, N2, .inl g2) → HdI (fun i => (l1 ++ l2).getD i 0) ((l1).length + (l2).length) p hL_ → ChI (fun i => (l1 ++ l2).getD i 0) ((l1).length + (l2).length) p eL → WX (lk tX3_load) (mM (d + 1)) Ψ 78 [(0, .ref 82), (3, .int (nI p))] [] (n, s, hL) := by
    intro t
    induction t with
    | zero =>
      intro p hL eL hL_ ht FR_hL F_hL_82 F_hL_83 F_hL_84 F_hL_85 F_hL_a F_hL__a_1_ F_hL_b F_hL__b_1_ hHd hCh
      refine WX.s1 rfl rfl ?_
      refine WX.s1 rfl rfl ?_
      refine WX.get1 (fs := [.ref 83, .int (nI ((l1).length + (l2).length)), .ref 84, .ref 85, .int fw, .int fl, .int fwi, .int fe, .int fle, .int fdi, .int fap, .int fal, .int fad]) rfl (ltN hn (by decide)) (F_hL_82) rfl ?_
      refine WX.icmp rfl (fun c_83 => ?_) (fun c_83 => absurd ((nI_leI (a := (l1).length + (l2).length) (b := p) (by omega) (by omega)).mpr (by omega)) c_83)
      clear c_83
      exact WX.ret0 rfl (kk hL g65 eL hL_ FR_hL F_hL_82 F_hL_83 F_hL_84 F_hL_85 hdA (fun q hq => hCh q (by omega) hq))
    | succ t ih =>
      intro p hL eL hL_ ht FR_hL F_hL_82 F_hL_83 F_hL_84 F_hL_85 F_hL_a F_hL__a_1_ F_hL_b F_hL__b_1_ hHd hCh
      refine WX.s1 rfl rfl ?_
      refine WX.s1 rfl rfl ?_
      refine WX.get1 (fs := [.ref 83, .int (nI ((l1).length + (l2).length)), .ref 84, .ref 85, .int fw, .int fl, .int fwi, .int fe, .int fle, .int fdi, .int fap, .int fal, .int fad]) rfl (ltN hn (by decide)) (F_hL_82) rfl ?_
      refine WX.icmp rfl (fun c_83 => absurd c_83 (fun zz_ => absurd ((nI_leI (a := (l1).length + (l2).length) (b := p) (by omega) (by omega)).mp zz_) (Nat.not_le.mpr (by omega)))) (fun c_83 => ?_)
      clear c_83
      refine WX.s1 rfl rfl ?_
      refine WX.s1 rfl rfl ?_
      refine WX.s1 (S' := [.int ((nI p) + 2)]) rfl rfl ?_
      rw [show ((nI p) + 2) = nI (p + 2) from nI_add p 2]
      refine WX.s1 rfl rfl ?_
      refine WX.get1 (fs := [.ref 83, .int (nI ((l1).length + (l2).length)), .ref 84, .ref 85, .int fw, .int fl, .int fwi, .int fe, .int fle, .int fdi, .int fap, .int fal, .int fad]) rfl (ltN hn (by decide)) (F_hL_82) rfl ?_
      refine WX.icmp rfl (fun c_93 => ?_) (fun c_93 => ?_)
      · skip
        have n_93 : ((l1).length + (l2).length) ≤ (p + 2) := (nI_leI (a := (l1).length + (l2).length) (b := p + 2) (by omega) (by omega)).mp c_93
        refine WX.s1 rfl rfl ?_
        refine WX.get1 (fs := [.ref 83, .int (nI ((l1).length + (l2).length)), .ref 84, .ref 85, .int fw, .int fl, .int fwi, .int fe, .int fle, .int fdi, .int fap, .int fal, .int fad]) rfl (ltN hn (by decide)) (F_hL_82) rfl ?_
        refine WX.s1 rfl rfl ?_
        refine WX.s1 rfl rfl ?_
        refine WX.iastN rfl (ltN hn (by decide)) (F_hL_84) (vp_in_nI (N := 16000) (by omega) (by decide)) (fun g180 h180 e_g180 e_h180 => ?_)
        try dsimp only at e_g180
        have F_h180_82 : h180 82 = .inr (3, [.ref 83, .int (nI ((l1).length + (l2).length)), .ref 84, .ref 85, .int fw, .int fl, .int fwi, .int fe, .int fle, .int fdi, .int fap, .int fal, .int fad]) := by rw [e_h180, va_up_neq (by decide)]; exact F_hL_82
        have F_h180_83 : h180 83 = .inl (0, 16000, .inl g65) := by rw [e_h180, va_up_neq (by decide)]; exact F_hL_83
        have F_h180_84 : h180 84 = .inl (1, 16000, .inl g180) := by rw [e_h180]; exact va_up_eq
        have F_h180_85 : h180 85 = .inl (1, 4096, .inl hL_) := by rw [e_h180, va_up_neq (by decide)]; exact F_hL_85
        have F_h180_a : h180 a = .inr (7, [.ref (a + 1), .int (nI (l1).length), .int 0, .long ho1, .int hd1]) := by rw [e_h180, va_up_neq (by omega)]; exact F_hL_a
        have F_h180__a_1_ : h180 (a + 1) = .inl (0, N1, .inl g1) := by rw [e_h180, va_up_neq (by omega)]; exact F_hL__a_1_
        have F_h180_b : h180 b = .inr (7, [.ref (b + 1), .int (nI (l2).length), .int 0, .long ho2, .int hd2]) := by rw [e_h180, va_up_neq (by omega)]; exact F_hL_b
        have F_h180__b_1_ : h180 (b + 1) = .inl (0, N2, .inl g2) := by rw [e_h180, va_up_neq (by omega)]; exact F_hL__b_1_
        have FR_h180 : Fr h h180 (fun j => 82 ≤ j ∧ j ≤ 85) := (FR_hL).zup e_h180 (by first | exact rfl | exact Or.inl rfl | exact Or.inr rfl | exact ⟨by decide, by decide⟩ | decide | omega)
        clear F_hL_82 F_hL_83 F_hL_84 F_hL_85 F_hL_a F_hL__a_1_ F_hL_b F_hL__b_1_ FR_hL e_h180
        refine WX.s1 (L' := [(0, .ref 82), (3, .int ((nI p) + 1))]) rfl rfl ?_
        rw [show ((nI p) + 1) = nI (p + 1) from nI_add p 1]
        refine WX.s1 rfl rfl ?_
        rw [nI_clamp (by omega)] at e_g180
        refine ih (p + 1) h180 g180 hL_ (by omega) FR_h180 F_h180_82 F_h180_83 F_h180_84 F_h180_85 F_h180_a F_h180__a_1_ F_h180_b F_h180__b_1_ ((hHd).no (by omega)) ?_
        rw [e_g180]; exact (hCh).no (by omega)
      · skip
        have n_93 : (p + 2) < ((l1).length + (l2).length) := Nat.lt_of_not_le (fun zz_ => c_93 ((nI_leI (a := (l1).length + (l2).length) (b := p + 2) (by omega) (by omega)).mpr zz_))
        refine WX.s1 rfl rfl ?_
        refine WX.get1 (fs := [.ref 83, .int (nI ((l1).length + (l2).length)), .ref 84, .ref 85, .int fw, .int fl, .int fwi, .int fe, .int fle, .int fdi, .int fap, .int fal, .int fad]) rfl (ltN hn (by decide)) (F_hL_82) rfl ?_
        refine WX.s1 rfl rfl ?_
        refine WX.bald1 rfl (ltN hn (by decide)) (F_hL_83) (vp_in_nI (N := 16000) (by omega) (by decide)) ?_
        rw [nI_clamp (by omega), (hdA (p) (by omega)).2]
        refine WX.s1 rfl rfl ?_
        refine WX.s1 (S' := [.int ((sb_b ((l1 ++ l2).getD (p) 0)) &&& 255)]) rfl rfl ?_
        rw [(sb_byte ((l1 ++ l2).getD (p) 0) (hdA (p) (by omega)).1).1]
        refine WX.s1 rfl rfl ?_
        refine WX.get1 (fs := [.ref 83, .int (nI ((l1).length + (l2).length)), .ref 84, .ref 85, .int fw, .int fl, .int fwi, .int fe, .int fle, .int fdi, .int fap, .int fal, .int fad]) rfl (ltN hn (by decide)) (F_hL_82) rfl ?_
        refine WX.s1 rfl rfl ?_
        refine WX.s1 rfl rfl ?_
        refine WX.s1 (S' := [.int ((nI p) + 1), .ref 83, .int (nI ((l1 ++ l2).getD (p) 0))]) rfl rfl ?_
        rw [show ((nI p) + 1) = nI (p + 1) from nI_add p 1]
        refine WX.bald1 rfl (ltN hn (by decide)) (F_hL_83) (vp_in_nI (N := 16000) (by omega) (by decide)) ?_
        rw [nI_clamp (by omega), (hdA (p + 1) (by omega)).2]
        refine WX.s1 rfl rfl ?_
        refine WX.s1 (S' := [.int ((sb_b ((l1 ++ l2).getD (p + 1) 0)) &&& 255), .int (nI ((l1 ++ l2).getD (p) 0))]) rfl rfl ?_
        rw [(sb_byte ((l1 ++ l2).getD (p + 1) 0) (hdA (p + 1) (by omega)).1).1]
        refine WX.s1 rfl rfl ?_
        refine WX.s1 (S' := [.int ((nI ((l1 ++ l2).getD (p + 1) 0)) <<< (8 &&& 31)), .int (nI ((l1 ++ l2).getD (p) 0))]) rfl rfl ?_
        refine WX.s1 (S' := [.int ((nI ((l1 ++ l2).getD (p) 0)) ||| ((nI ((l1 ++ l2).getD (p + 1) 0)) <<< (8 &&& 31)))]) rfl rfl ?_
        refine WX.s1 rfl rfl ?_
        refine WX.get1 (fs := [.ref 83, .int (nI ((l1).length + (l2).length)), .ref 84, .ref 85, .int fw, .int fl, .int fwi, .int fe, .int fle, .int fdi, .int fap, .int fal, .int fad]) rfl (ltN hn (by decide)) (F_hL_82) rfl ?_
        refine WX.s1 rfl rfl ?_
        refine WX.s1 rfl rfl ?_
        refine WX.s1 (S' := [.int ((nI p) + 2), .ref 83, .int ((nI ((l1 ++ l2).getD (p) 0)) ||| ((nI ((l1 ++ l2).getD (p + 1) 0)) <<< (8 &&& 31)))]) rfl rfl ?_
        rw [show ((nI p) + 2) = nI (p + 2) from nI_add p 2]
        refine WX.bald1 rfl (ltN hn (by decide)) (F_hL_83) (vp_in_nI (N := 16000) (by omega) (by decide)) ?_
        rw [nI_clamp (by omega), (hdA (p + 2) (by omega)).2]
        refine WX.s1 rfl rfl ?_
        refine WX.s1 (S' := [.int ((sb_b ((l1 ++ l2).getD (p + 2) 0)) &&& 255), .int ((nI ((l1 ++ l2).getD (p) 0)) ||| ((nI ((l1 ++ l2).getD (p + 1) 0)) <<< (8 &&& 31)))]) rfl rfl ?_
        rw [(sb_byte ((l1 ++ l2).getD (p + 2) 0) (hdA (p + 2) (by omega)).1).1]
        refine WX.s1 rfl rfl ?_
        refine WX.s1 (S' := [.int ((nI ((l1 ++ l2).getD (p + 2) 0)) <<< (16 &&& 31)), .int ((nI ((l1 ++ l2).getD (p) 0)) ||| ((nI ((l1 ++ l2).getD (p + 1) 0)) <<< (8 &&& 31)))]) rfl rfl ?_
        refine WX.s1 (S' := [.int (((nI ((l1 ++ l2).getD (p) 0)) ||| ((nI ((l1 ++ l2).getD (p + 1) 0)) <<< (8 &&& 31))) ||| ((nI ((l1 ++ l2).getD (p + 2) 0)) <<< (16 &&& 31)))]) rfl rfl ?_
        refine WX.s1 (L' := [(0, .ref 82), (3, .int (nI p)), (4, .int (((nI ((l1 ++ l2).getD (p) 0)) ||| ((nI ((l1 ++ l2).getD (p + 1) 0)) <<< (8 &&& 31))) ||| ((nI ((l1 ++ l2).getD (p + 2) 0)) <<< (16 &&& 31))))]) rfl rfl ?_
        refine WX.s1 rfl rfl ?_
        refine WX.s1 rfl rfl ?_
        refine WX.s1 (S' := [.int ((((nI ((l1 ++ l2).getD (p) 0)) ||| ((nI ((l1 ++ l2).getD (p + 1) 0)) <<< (8 &&& 31))) ||| ((nI ((l1 ++ l2).getD (p + 2) 0)) <<< (16 &&& 31))) * (-1640531535))]) rfl rfl ?_
        refine WX.s1 rfl rfl ?_
        refine WX.s1 (S' := [.int ((((((nI ((l1 ++ l2).getD (p) 0)) ||| ((nI ((l1 ++ l2).getD (p + 1) 0)) <<< (8 &&& 31))) ||| ((nI ((l1 ++ l2).getD (p + 2) 0)) <<< (16 &&& 31))) * (-1640531535)).toUInt32 >>> ((20 : Int32).toUInt32 &&& Int32.toUInt32 31)).toInt32)]) rfl rfl ?_
        rw [show ((((((nI ((l1 ++ l2).getD (p) 0)) ||| ((nI ((l1 ++ l2).getD (p + 1) 0)) <<< (8 &&& 31))) ||| ((nI ((l1 ++ l2).getD (p + 2) 0)) <<< (16 &&& 31))) * (-1640531535)).toUInt32 >>> ((20 : Int32).toUInt32 &&& Int32.toUInt32 31)).toInt32) = nI (hsD (fun i => (l1 ++ l2).getD i 0) p) from (hsI_eq ((l1 ++ l2).getD p 0) ((l1 ++ l2).getD (p + 1) 0) ((l1 ++ l2).getD (p + 2) 0)).1]
        refine WX.s1 (L' := [(0, .ref 82), (3, .int (nI p)), (4, .int (((nI ((l1 ++ l2).getD (p) 0)) ||| ((nI ((l1 ++ l2).getD (p + 1) 0)) <<< (8 &&& 31))) ||| ((nI ((l1 ++ l2).getD (p + 2) 0)) <<< (16 &&& 31)))), (5, .int (nI (hsD (fun i => (l1 ++ l2).getD i 0) p)))]) rfl rfl ?_
        have hhs : hsD (fun i => (l1 ++ l2).getD i 0) p < 4096 := (hsI_eq _ _ _).2
        refine WX.s1 rfl rfl ?_
        refine WX.get1 (fs := [.ref 83, .int (nI ((l1).length + (l2).length)), .ref 84, .ref 85, .int fw, .int fl, .int fwi, .int fe, .int fle, .int fdi, .int fap, .int fal, .int fad]) rfl (ltN hn (by decide)) (F_hL_82) rfl ?_
        refine WX.s1 rfl rfl ?_
        refine WX.s1 rfl rfl ?_
        refine WX.get1 (fs := [.ref 83, .int (nI ((l1).length + (l2).length)), .ref 84, .ref 85, .int fw, .int fl, .int fwi, .int fe, .int fle, .int fdi, .int fap, .int fal, .int fad]) rfl (ltN hn (by decide)) (F_hL_82) rfl ?_
        refine WX.s1 rfl rfl ?_
        refine WX.iald1 rfl (Or.inl (ltN hn (by decide))) (F_hL_85) (vp_in_nI (N := 4096) hhs (by decide)) ?_
        rw [nI_clamp (by omega)]
        refine WX.iastN rfl (ltN hn (by decide)) (F_hL_84) (vp_in_nI (N := 16000) (by omega) (by decide)) (fun g162 h162 e_g162 e_h162 => ?_)
        try dsimp only at e_g162
        have F_h162_82 : h162 82 = .inr (3, [.ref 83, .int (nI ((l1).length + (l2).length)), .ref 84, .ref 85, .int fw, .int fl, .int fwi, .int fe, .int fle, .int fdi, .int fap, .int fal, .int fad]) := by rw [e_h162, va_up_neq (by decide)]; exact F_hL_82
        have F_h162_83 : h162 83 = .inl (0, 16000, .inl g65) := by rw [e_h162, va_up_neq (by decide)]; exact F_hL_83
        have F_h162_84 : h162 84 = .inl (1, 16000, .inl g162) := by rw [e_h162]; exact va_up_eq
        have F_h162_85 : h162 85 = .inl (1, 4096, .inl hL_) := by rw [e_h162, va_up_neq (by decide)]; exact F_hL_85
        have F_h162_a : h162 a = .inr (7, [.ref (a + 1), .int (nI (l1).length), .int 0, .long ho1, .int hd1]) := by rw [e_h162, va_up_neq (by omega)]; exact F_hL_a
        have F_h162__a_1_ : h162 (a + 1) = .inl (0, N1, .inl g1) := by rw [e_h162, va_up_neq (by omega)]; exact F_hL__a_1_
        have F_h162_b : h162 b = .inr (7, [.ref (b + 1), .int (nI (l2).length), .int 0, .long ho2, .int hd2]) := by rw [e_h162, va_up_neq (by omega)]; exact F_hL_b
        have F_h162__b_1_ : h162 (b + 1) = .inl (0, N2, .inl g2) := by rw [e_h162, va_up_neq (by omega)]; exact F_hL__b_1_
        have FR_h162 : Fr h h162 (fun j => 82 ≤ j ∧ j ≤ 85) := (FR_hL).zup e_h162 (by first | exact rfl | exact Or.inl rfl | exact Or.inr rfl | exact ⟨by decide, by decide⟩ | decide | omega)
        clear F_hL_82 F_hL_83 F_hL_84 F_hL_85 F_hL_a F_hL__a_1_ F_hL_b F_hL__b_1_ FR_hL e_h162
        refine WX.s1 rfl rfl ?_
        refine WX.get1 (fs := [.ref 83, .int (nI ((l1).length + (l2).length)), .ref 84, .ref 85, .int fw, .int fl, .int fwi, .int fe, .int fle, .int fdi, .int fap, .int fal, .int fad]) rfl (ltN hn (by decide)) (F_h162_82) rfl ?_
        refine WX.s1 rfl rfl ?_
        refine WX.s1 rfl rfl ?_
        refine WX.iastN rfl (ltN hn (by decide)) (F_h162_85) (vp_in_nI (N := 4096) hhs (by decide)) (fun g170 h170 e_g170 e_h170 => ?_)
        try dsimp only at e_g170
        have F_h170_82 : h170 82 = .inr (3, [.ref 83, .int (nI ((l1).length + (l2).length)), .ref 84, .ref 85, .int fw, .int fl, .int fwi, .int fe, .int fle, .int fdi, .int fap, .int fal, .int fad]) := by rw [e_h170, va_up_neq (by decide)]; exact F_h162_82
        have F_h170_83 : h170 83 = .inl (0, 16000, .inl g65) := by rw [e_h170, va_up_neq (by decide)]; exact F_h162_83
        have F_h170_84 : h170 84 = .inl (1, 16000, .inl g162) := by rw [e_h170, va_up_neq (by decide)]; exact F_h162_84
        have F_h170_85 : h170 85 = .inl (1, 4096, .inl g170) := by rw [e_h170]; exact va_up_eq
        have F_h170_a : h170 a = .inr (7, [.ref (a + 1), .int (nI (l1).length), .int 0, .long ho1, .int hd1]) := by rw [e_h170, va_up_neq (by omega)]; exact F_h162_a
        have F_h170__a_1_ : h170 (a + 1) = .inl (0, N1, .inl g1) := by rw [e_h170, va_up_neq (by omega)]; exact F_h162__a_1_
        have F_h170_b : h170 b = .inr (7, [.ref (b + 1), .int (nI (l2).length), .int 0, .long ho2, .int hd2]) := by rw [e_h170, va_up_neq (by omega)]; exact F_h162_b
        have F_h170__b_1_ : h170 (b + 1) = .inl (0, N2, .inl g2) := by rw [e_h170, va_up_neq (by omega)]; exact F_h162__b_1_
        have FR_h170 : Fr h h170 (fun j => 82 ≤ j ∧ j ≤ 85) := (FR_h162).zup e_h170 (by first | exact rfl | exact Or.inl rfl | exact Or.inr rfl | exact ⟨by decide, by decide⟩ | decide | omega)
        clear F_h162_82 F_h162_83 F_h162_84 F_h162_85 F_h162_a F_h162__a_1_ F_h162_b F_h162__b_1_ FR_h162 e_h170
        refine WX.s1 rfl rfl ?_
        refine WX.s1 (L' := [(0, .ref 82), (3, .int ((nI p) + 1)), (4, .int (((nI ((l1 ++ l2).getD (p) 0)) ||| ((nI ((l1 ++ l2).getD (p + 1) 0)) <<< (8 &&& 31))) ||| ((nI ((l1 ++ l2).getD (p + 2) 0)) <<< (16 &&& 31)))), (5, .int (nI (hsD (fun i => (l1 ++ l2).getD i 0) p)))]) rfl rfl ?_
        rw [show ((nI p) + 1) = nI (p + 1) from nI_add p 1]
        refine WX.s1 rfl rfl ?_
        refine WX.keep (y := 33) [0, 3] (show ([0, 3, 4, 5] : List Nat).Nodup by decide) rfl ?_
        rw [nI_clamp (by omega)] at e_g162 e_g170
        refine ih (p + 1) h170 g162 g170 (by omega) FR_h170 F_h170_82 F_h170_83 F_h170_84 F_h170_85 F_h170_a F_h170__a_1_ F_h170_b F_h170__b_1_ ?_ ?_
        · rw [e_g170]; exact (hHd).st
        · rw [e_g162]; exact (hCh).st hHd (by omega)
  refine WX.keep (y := 33) [0, 3] (show ([0, 1, 2, 3] : List Nat).Nodup by decide) rfl ?_
  exact lp ((l1).length + (l2).length) 0 h73 eA gF (by omega) FR_h73 F_h73_82 F_h73_83 F_h73_84 F_h73_85 F_h73_a F_h73__a_1_ F_h73_b F_h73__b_1_ (fun x hx => ⟨0, Nat.le_refl 0, hgF x hx, fun z => absurd rfl z, fun y h1 h2 _ => absurd h2 (by omega)⟩) (fun q hq => absurd hq (by omega))
