/-! Finder.find: the length taken -/
def AhOk (D : Nat → Nat) (way least win e : Nat) (ap al ad : Int32) : Prop := ap = -1 ∨ ∃ x, x ≤ 16000 ∧ ap = nI x ∧ al = nI (mAt D (wy way) least win e x).1 ∧ ad = nI (rd (mAt D (wy way) least win e x) x)
def tk (D : Nat → Nat) (way least win e p : Nat) : Nat := if way = 3 ∧ (mAt D (wy way) least win e p).1 < (mAt D (wy way) least win e (p + 1)).1 then 0 else (mAt D (wy way) least win e p).1
theorem mAt_le (D : Nat → Nat) (way least win e p : Nat) : (mAt D way least win e p).1 ≤ e - p := mFold_le D way least e p _
theorem rd_le (r : Nat × Nat) (p : Nat) : rd r p ≤ p := by
  unfold rd
  by_cases h : r.1 = 0
  · rw [if_pos h]; omega
  · rw [if_neg h]; omega
set_option maxRecDepth 20000 in
theorem x_look {d n s : Nat} {h : Nat → aE} {D H : Nat → Nat} {dA eA : Nat → Int32} {U way least win e p : Nat} {fap fal fad : Int32} (hn : 190 ≤ n) (hD : ∀ i, i < U → D i < 256 ∧ dA i = sb_b (D i)) (hU : U ≤ 16000) (hw : way ≤ 3) (hl3 : 3 ≤ least) (hl8 : least ≤ 8) (hwin : win < 2 ^ 30) (he : e ≤ U) (hp : p ≤ e) (hC : ChainAt H U eA) (hH : HashOk D H) (h3 : way = 3) (h0 : (mAt D (wy way) least win e p).1 ≠ 0) (F_h_82 : h 82 = .inr (3, [.ref 83, .int (nI U), .ref 84, .ref 85, .int (nI way), .int (nI least), .int (nI win), .int (nI e), .int (nI (mAt D (wy way) least win e p).1), .int (nI (rd (mAt D (wy way) least win e p) p)), .int fap, .int fal, .int fad])) (F_h_83 : h 83 = .inl (0, 16000, .inl dA)) (F_h_84 : h 84 = .inl (1, 16000, .inl eA))  {Ψ : Option Value → aH → Prop} (kk : ∀ h' ap al ad, Fr h h' (fun j => j = 82) → h' 82 = .inr (3, [.ref 83, .int (nI U), .ref 84, .ref 85, .int (nI way), .int (nI least), .int (nI win), .int (nI e), .int (nI (tk D way least win e p)), .int (nI (rd (mAt D (wy way) least win e p) p)), .int ap, .int al, .int ad]) → AhOk D way least win e ap al ad → Ψ none (n, s, h')) : WO (mM (d + 3)) 40 [.ref 82, .int (nI p)] (n, s, h) Ψ := by
  refine WO.of (Nat.le_of_ble_eq_true rfl) ?_
  have FR_h : Fr h h (fun j => j = 82) := Fr.rf
  have hle1 := mAt_le D (wy way) least win e p
  have hle2 := mAt_le D (wy way) least win e (p + 1)
  show WX (lk tX3_lookAhead) (mM (d + 2)) Ψ 0 [(0, .ref 82), (1, .int (nI p))] [] (n, s, h)
  refine WX.s1 rfl rfl ?_
  refine WX.get1 (fs := [.ref 83, .int (nI U), .ref 84, .ref 85, .int (nI way), .int (nI least), .int (nI win), .int (nI e), .int (nI (mAt D (wy way) least win e p).1), .int (nI (rd (mAt D (wy way) least win e p) p)), .int fap, .int fal, .int fad]) rfl (ltN hn (by decide)) (F_h_82) rfl ?_
  refine WX.s1 (L' := [(0, .ref 82), (1, .int (nI p)), (2, .int (nI (mAt D (wy way) least win e p).1))]) rfl rfl ?_
  refine WX.s1 rfl rfl ?_
  refine WX.get1 (fs := [.ref 83, .int (nI U), .ref 84, .ref 85, .int (nI way), .int (nI least), .int (nI win), .int (nI e), .int (nI (mAt D (wy way) least win e p).1), .int (nI (rd (mAt D (wy way) least win e p) p)), .int fap, .int fal, .int fad]) rfl (ltN hn (by decide)) (F_h_82) rfl ?_
  refine WX.s1 (L' := [(0, .ref 82), (1, .int (nI p)), (2, .int (nI (mAt D (wy way) least win e p).1)), (3, .int (nI (rd (mAt D (wy way) least win e p) p)))]) rfl rfl ?_
  refine WX.s1 rfl rfl ?_
  refine WX.s1 rfl rfl ?_
  refine WX.s1 rfl rfl ?_
  refine WX.s1 (S' := [.int ((nI p) + 1), .ref 82]) rfl rfl ?_
  rw [show ((nI p) + 1) = nI (p + 1) from nI_add p 1]
  refine WX.callC (vs := [.ref 82, .int (nI (p + 1))]) rfl rfl rfl (Nat.le_of_ble_eq_true rfl) (rcv_ok (ltN hn (by decide)) F_h_82) ?_
  refine x_search hn hD hU hw hl3 hl8 hwin he (p := p + 1) (by omega) hC hH F_h_82 F_h_83 F_h_84 (fun h14 fr F_h14_82 => ?_)
  have F_h14_83 : h14 83 = .inl (0, 16000, .inl dA) := (fr _ (by first | decide | omega)).trans F_h_83
  have F_h14_84 : h14 84 = .inl (1, 16000, .inl eA) := (fr _ (by first | decide | omega)).trans F_h_84
  have FR_h14 : Fr h h14 (fun j => j = 82) := FR_h.ztr fr
  show WX _ _ _ 17 [(0, .ref 82), (1, .int (nI p)), (2, .int (nI (mAt D (wy way) least win e p).1)), (3, .int (nI (rd (mAt D (wy way) least win e p) p)))] [] (n, s, h14)
  refine WX.s1 rfl rfl ?_
  refine WX.s1 rfl rfl ?_
  refine WX.s1 rfl rfl ?_
  refine WX.s1 (S' := [.int ((nI p) + 1), .ref 82]) rfl rfl ?_
  rw [show ((nI p) + 1) = nI (p + 1) from nI_add p 1]
  refine WX.put1 (fs := [.ref 83, .int (nI U), .ref 84, .ref 85, .int (nI way), .int (nI least), .int (nI win), .int (nI e), .int (nI (mAt D (wy way) least win e (p + 1)).1), .int (nI (rd (mAt D (wy way) least win e (p + 1)) (p + 1))), .int fap, .int fal, .int fad]) (fs' := [.ref 83, .int (nI U), .ref 84, .ref 85, .int (nI way), .int (nI least), .int (nI win), .int (nI e), .int (nI (mAt D (wy way) least win e (p + 1)).1), .int (nI (rd (mAt D (wy way) least win e (p + 1)) (p + 1))), .int (nI (p + 1)), .int fal, .int fad]) rfl (ltN hn (by decide)) (F_h14_82) (Nat.le_of_ble_eq_true rfl) (rfl) rfl (fun h21 e_h21 => ?_)
  have F_h21_82 : h21 82 = .inr (3, [.ref 83, .int (nI U), .ref 84, .ref 85, .int (nI way), .int (nI least), .int (nI win), .int (nI e), .int (nI (mAt D (wy way) least win e (p + 1)).1), .int (nI (rd (mAt D (wy way) least win e (p + 1)) (p + 1))), .int (nI (p + 1)), .int fal, .int fad]) := by rw [e_h21]; exact va_up_eq
  have F_h21_83 : h21 83 = .inl (0, 16000, .inl dA) := by rw [e_h21, va_up_neq (by decide)]; exact F_h14_83
  have F_h21_84 : h21 84 = .inl (1, 16000, .inl eA) := by rw [e_h21, va_up_neq (by decide)]; exact F_h14_84
  have FR_h21 : Fr h h21 (fun j => j = 82) := FR_h14.zup e_h21 (by first | exact rfl | exact Or.inl rfl | exact Or.inr rfl | exact ⟨by decide, by decide⟩ | decide | omega)
  clear F_h14_82 F_h14_83 F_h14_84 FR_h14 e_h21
  refine WX.s1 rfl rfl ?_
  refine WX.s1 rfl rfl ?_
  refine WX.get1 (fs := [.ref 83, .int (nI U), .ref 84, .ref 85, .int (nI way), .int (nI least), .int (nI win), .int (nI e), .int (nI (mAt D (wy way) least win e (p + 1)).1), .int (nI (rd (mAt D (wy way) least win e (p + 1)) (p + 1))), .int (nI (p + 1)), .int fal, .int fad]) rfl (ltN hn (by decide)) (F_h21_82) rfl ?_
  refine WX.put1 (fs := [.ref 83, .int (nI U), .ref 84, .ref 85, .int (nI way), .int (nI least), .int (nI win), .int (nI e), .int (nI (mAt D (wy way) least win e (p + 1)).1), .int (nI (rd (mAt D (wy way) least win e (p + 1)) (p + 1))), .int (nI (p + 1)), .int fal, .int fad]) (fs' := [.ref 83, .int (nI U), .ref 84, .ref 85, .int (nI way), .int (nI least), .int (nI win), .int (nI e), .int (nI (mAt D (wy way) least win e (p + 1)).1), .int (nI (rd (mAt D (wy way) least win e (p + 1)) (p + 1))), .int (nI (p + 1)), .int (nI (mAt D (wy way) least win e (p + 1)).1), .int fad]) rfl (ltN hn (by decide)) (F_h21_82) (Nat.le_of_ble_eq_true rfl) (rfl) rfl (fun h29 e_h29 => ?_)
  have F_h29_82 : h29 82 = .inr (3, [.ref 83, .int (nI U), .ref 84, .ref 85, .int (nI way), .int (nI least), .int (nI win), .int (nI e), .int (nI (mAt D (wy way) least win e (p + 1)).1), .int (nI (rd (mAt D (wy way) least win e (p + 1)) (p + 1))), .int (nI (p + 1)), .int (nI (mAt D (wy way) least win e (p + 1)).1), .int fad]) := by rw [e_h29]; exact va_up_eq
  have F_h29_83 : h29 83 = .inl (0, 16000, .inl dA) := by rw [e_h29, va_up_neq (by decide)]; exact F_h21_83
  have F_h29_84 : h29 84 = .inl (1, 16000, .inl eA) := by rw [e_h29, va_up_neq (by decide)]; exact F_h21_84
  have FR_h29 : Fr h h29 (fun j => j = 82) := FR_h21.zup e_h29 (by first | exact rfl | exact Or.inl rfl | exact Or.inr rfl | exact ⟨by decide, by decide⟩ | decide | omega)
  clear F_h21_82 F_h21_83 F_h21_84 FR_h21 e_h29
  refine WX.s1 rfl rfl ?_
  refine WX.s1 rfl rfl ?_
  refine WX.get1 (fs := [.ref 83, .int (nI U), .ref 84, .ref 85, .int (nI way), .int (nI least), .int (nI win), .int (nI e), .int (nI (mAt D (wy way) least win e (p + 1)).1), .int (nI (rd (mAt D (wy way) least win e (p + 1)) (p + 1))), .int (nI (p + 1)), .int (nI (mAt D (wy way) least win e (p + 1)).1), .int fad]) rfl (ltN hn (by decide)) (F_h29_82) rfl ?_
  refine WX.put1 (fs := [.ref 83, .int (nI U), .ref 84, .ref 85, .int (nI way), .int (nI least), .int (nI win), .int (nI e), .int (nI (mAt D (wy way) least win e (p + 1)).1), .int (nI (rd (mAt D (wy way) least win e (p + 1)) (p + 1))), .int (nI (p + 1)), .int (nI (mAt D (wy way) least win e (p + 1)).1), .int fad]) (fs' := [.ref 83, .int (nI U), .ref 84, .ref 85, .int (nI way), .int (nI least), .int (nI win), .int (nI e), .int (nI (mAt D (wy way) least win e (p + 1)).1), .int (nI (rd (mAt D (wy way) least win e (p + 1)) (p + 1))), .int (nI (p + 1)), .int (nI (mAt D (wy way) least win e (p + 1)).1), .int (nI (rd (mAt D (wy way) least win e (p + 1)) (p + 1)))]) rfl (ltN hn (by decide)) (F_h29_82) (Nat.le_of_ble_eq_true rfl) (rfl) rfl (fun h37 e_h37 => ?_)
  have F_h37_82 : h37 82 = .inr (3, [.ref 83, .int (nI U), .ref 84, .ref 85, .int (nI way), .int (nI least), .int (nI win), .int (nI e), .int (nI (mAt D (wy way) least win e (p + 1)).1), .int (nI (rd (mAt D (wy way) least win e (p + 1)) (p + 1))), .int (nI (p + 1)), .int (nI (mAt D (wy way) least win e (p + 1)).1), .int (nI (rd (mAt D (wy way) least win e (p + 1)) (p + 1)))]) := by rw [e_h37]; exact va_up_eq
  have F_h37_83 : h37 83 = .inl (0, 16000, .inl dA) := by rw [e_h37, va_up_neq (by decide)]; exact F_h29_83
  have F_h37_84 : h37 84 = .inl (1, 16000, .inl eA) := by rw [e_h37, va_up_neq (by decide)]; exact F_h29_84
  have FR_h37 : Fr h h37 (fun j => j = 82) := FR_h29.zup e_h37 (by first | exact rfl | exact Or.inl rfl | exact Or.inr rfl | exact ⟨by decide, by decide⟩ | decide | omega)
  clear F_h29_82 F_h29_83 F_h29_84 FR_h29 e_h37
  refine WX.s1 rfl rfl ?_
  refine WX.s1 rfl rfl ?_
  refine WX.get1 (fs := [.ref 83, .int (nI U), .ref 84, .ref 85, .int (nI way), .int (nI least), .int (nI win), .int (nI e), .int (nI (mAt D (wy way) least win e (p + 1)).1), .int (nI (rd (mAt D (wy way) least win e (p + 1)) (p + 1))), .int (nI (p + 1)), .int (nI (mAt D (wy way) least win e (p + 1)).1), .int (nI (rd (mAt D (wy way) least win e (p + 1)) (p + 1)))]) rfl (ltN hn (by decide)) (F_h37_82) rfl ?_
  refine WX.s1 rfl rfl ?_
  refine WX.icmp rfl (fun c_46 => ?_) (fun c_46 => ?_)
  · skip
    have n_46 : ((mAt D (wy way) least win e (p + 1)).1) ≤ ((mAt D (wy way) least win e p).1) := (nI_leI (a := (mAt D (wy way) least win e (p + 1)).1) (b := (mAt D (wy way) least win e p).1) (by omega) (by omega)).mp c_46
    refine WX.s1 rfl rfl ?_
    refine WX.put1 (fs := [.ref 83, .int (nI U), .ref 84, .ref 85, .int (nI way), .int (nI least), .int (nI win), .int (nI e), .int (nI (mAt D (wy way) least win e (p + 1)).1), .int (nI (rd (mAt D (wy way) least win e (p + 1)) (p + 1))), .int (nI (p + 1)), .int (nI (mAt D (wy way) least win e (p + 1)).1), .int (nI (rd (mAt D (wy way) least win e (p + 1)) (p + 1)))]) (fs' := [.ref 83, .int (nI U), .ref 84, .ref 85, .int (nI way), .int (nI least), .int (nI win), .int (nI e), .int (nI (mAt D (wy way) least win e p).1), .int (nI (rd (mAt D (wy way) least win e (p + 1)) (p + 1))), .int (nI (p + 1)), .int (nI (mAt D (wy way) least win e (p + 1)).1), .int (nI (rd (mAt D (wy way) least win e (p + 1)) (p + 1)))]) rfl (ltN hn (by decide)) (F_h37_82) (Nat.le_of_ble_eq_true rfl) (rfl) rfl (fun h54 e_h54 => ?_)
    have F_h54_82 : h54 82 = .inr (3, [.ref 83, .int (nI U), .ref 84, .ref 85, .int (nI way), .int (nI least), .int (nI win), .int (nI e), .int (nI (mAt D (wy way) least win e p).1), .int (nI (rd (mAt D (wy way) least win e (p + 1)) (p + 1))), .int (nI (p + 1)), .int (nI (mAt D (wy way) least win e (p + 1)).1), .int (nI (rd (mAt D (wy way) least win e (p + 1)) (p + 1)))]) := by rw [e_h54]; exact va_up_eq
    have F_h54_83 : h54 83 = .inl (0, 16000, .inl dA) := by rw [e_h54, va_up_neq (by decide)]; exact F_h37_83
    have F_h54_84 : h54 84 = .inl (1, 16000, .inl eA) := by rw [e_h54, va_up_neq (by decide)]; exact F_h37_84
    have FR_h54 : Fr h h54 (fun j => j = 82) := FR_h37.zup e_h54 (by first | exact rfl | exact Or.inl rfl | exact Or.inr rfl | exact ⟨by decide, by decide⟩ | decide | omega)
    clear F_h37_82 F_h37_83 F_h37_84 FR_h37 e_h54
    refine WX.s1 rfl rfl ?_
    refine WX.s1 rfl rfl ?_
    refine WX.put1 (fs := [.ref 83, .int (nI U), .ref 84, .ref 85, .int (nI way), .int (nI least), .int (nI win), .int (nI e), .int (nI (mAt D (wy way) least win e p).1), .int (nI (rd (mAt D (wy way) least win e (p + 1)) (p + 1))), .int (nI (p + 1)), .int (nI (mAt D (wy way) least win e (p + 1)).1), .int (nI (rd (mAt D (wy way) least win e (p + 1)) (p + 1)))]) (fs' := [.ref 83, .int (nI U), .ref 84, .ref 85, .int (nI way), .int (nI least), .int (nI win), .int (nI e), .int (nI (mAt D (wy way) least win e p).1), .int (nI (rd (mAt D (wy way) least win e p) p)), .int (nI (p + 1)), .int (nI (mAt D (wy way) least win e (p + 1)).1), .int (nI (rd (mAt D (wy way) least win e (p + 1)) (p + 1)))]) rfl (ltN hn (by decide)) (F_h54_82) (Nat.le_of_ble_eq_true rfl) (rfl) rfl (fun h59 e_h59 => ?_)
    have F_h59_82 : h59 82 = .inr (3, [.ref 83, .int (nI U), .ref 84, .ref 85, .int (nI way), .int (nI least), .int (nI win), .int (nI e), .int (nI (mAt D (wy way) least win e p).1), .int (nI (rd (mAt D (wy way) least win e p) p)), .int (nI (p + 1)), .int (nI (mAt D (wy way) least win e (p + 1)).1), .int (nI (rd (mAt D (wy way) least win e (p + 1)) (p + 1)))]) := by rw [e_h59]; exact va_up_eq
    have F_h59_83 : h59 83 = .inl (0, 16000, .inl dA) := by rw [e_h59, va_up_neq (by decide)]; exact F_h54_83
    have F_h59_84 : h59 84 = .inl (1, 16000, .inl eA) := by rw [e_h59, va_up_neq (by decide)]; exact F_h54_84
    have FR_h59 : Fr h h59 (fun j => j = 82) := FR_h54.zup e_h59 (by first | exact rfl | exact Or.inl rfl | exact Or.inr rfl | exact ⟨by decide, by decide⟩ | decide | omega)
    clear F_h54_82 F_h54_83 F_h54_84 FR_h54 e_h59
    refine WX.ret0 rfl (kk h59 _ _ _ FR_h59 ?_ (Or.inr ⟨p + 1, by omega, rfl, rfl, rfl⟩))
    rw [F_h59_82]
    unfold tk
    first
      | (rw [if_pos ⟨h3, n_46⟩]; rfl)
      | rw [if_neg (fun z => absurd z.2 (Nat.not_lt.mpr n_46))]
  · skip
    have n_46 : ((mAt D (wy way) least win e p).1) < ((mAt D (wy way) least win e (p + 1)).1) := Nat.lt_of_not_le (fun zz_ => c_46 ((nI_leI (a := (mAt D (wy way) least win e (p + 1)).1) (b := (mAt D (wy way) least win e p).1) (by omega) (by omega)).mpr zz_))
    refine WX.s1 rfl rfl ?_
    refine WX.s1 rfl rfl ?_
    refine WX.put1 (fs := [.ref 83, .int (nI U), .ref 84, .ref 85, .int (nI way), .int (nI least), .int (nI win), .int (nI e), .int (nI (mAt D (wy way) least win e (p + 1)).1), .int (nI (rd (mAt D (wy way) least win e (p + 1)) (p + 1))), .int (nI (p + 1)), .int (nI (mAt D (wy way) least win e (p + 1)).1), .int (nI (rd (mAt D (wy way) least win e (p + 1)) (p + 1)))]) (fs' := [.ref 83, .int (nI U), .ref 84, .ref 85, .int (nI way), .int (nI least), .int (nI win), .int (nI e), .int 0, .int (nI (rd (mAt D (wy way) least win e (p + 1)) (p + 1))), .int (nI (p + 1)), .int (nI (mAt D (wy way) least win e (p + 1)).1), .int (nI (rd (mAt D (wy way) least win e (p + 1)) (p + 1)))]) rfl (ltN hn (by decide)) (F_h37_82) (Nat.le_of_ble_eq_true rfl) (rfl) rfl (fun h54 e_h54 => ?_)
    have F_h54_82 : h54 82 = .inr (3, [.ref 83, .int (nI U), .ref 84, .ref 85, .int (nI way), .int (nI least), .int (nI win), .int (nI e), .int 0, .int (nI (rd (mAt D (wy way) least win e (p + 1)) (p + 1))), .int (nI (p + 1)), .int (nI (mAt D (wy way) least win e (p + 1)).1), .int (nI (rd (mAt D (wy way) least win e (p + 1)) (p + 1)))]) := by rw [e_h54]; exact va_up_eq
    have F_h54_83 : h54 83 = .inl (0, 16000, .inl dA) := by rw [e_h54, va_up_neq (by decide)]; exact F_h37_83
    have F_h54_84 : h54 84 = .inl (1, 16000, .inl eA) := by rw [e_h54, va_up_neq (by decide)]; exact F_h37_84
    have FR_h54 : Fr h h54 (fun j => j = 82) := FR_h37.zup e_h54 (by first | exact rfl | exact Or.inl rfl | exact Or.inr rfl | exact ⟨by decide, by decide⟩ | decide | omega)
    clear F_h37_82 F_h37_83 F_h37_84 FR_h37 e_h54
    refine WX.s1 rfl rfl ?_
    refine WX.s1 rfl rfl ?_
    refine WX.put1 (fs := [.ref 83, .int (nI U), .ref 84, .ref 85, .int (nI way), .int (nI least), .int (nI win), .int (nI e), .int 0, .int (nI (rd (mAt D (wy way) least win e (p + 1)) (p + 1))), .int (nI (p + 1)), .int (nI (mAt D (wy way) least win e (p + 1)).1), .int (nI (rd (mAt D (wy way) least win e (p + 1)) (p + 1)))]) (fs' := [.ref 83, .int (nI U), .ref 84, .ref 85, .int (nI way), .int (nI least), .int (nI win), .int (nI e), .int 0, .int (nI (rd (mAt D (wy way) least win e p) p)), .int (nI (p + 1)), .int (nI (mAt D (wy way) least win e (p + 1)).1), .int (nI (rd (mAt D (wy way) least win e (p + 1)) (p + 1)))]) rfl (ltN hn (by decide)) (F_h54_82) (Nat.le_of_ble_eq_true rfl) (rfl) rfl (fun h59 e_h59 => ?_)
    have F_h59_82 : h59 82 = .inr (3, [.ref 83, .int (nI U), .ref 84, .ref 85, .int (nI way), .int (nI least), .int (nI win), .int (nI e), .int 0, .int (nI (rd (mAt D (wy way) least win e p) p)), .int (nI (p + 1)), .int (nI (mAt D (wy way) least win e (p + 1)).1), .int (nI (rd (mAt D (wy way) least win e (p + 1)) (p + 1)))]) := by rw [e_h59]; exact va_up_eq
    have F_h59_83 : h59 83 = .inl (0, 16000, .inl dA) := by rw [e_h59, va_up_neq (by decide)]; exact F_h54_83
    have F_h59_84 : h59 84 = .inl (1, 16000, .inl eA) := by rw [e_h59, va_up_neq (by decide)]; exact F_h54_84
    have FR_h59 : Fr h h59 (fun j => j = 82) := FR_h54.zup e_h59 (by first | exact rfl | exact Or.inl rfl | exact Or.inr rfl | exact ⟨by decide, by decide⟩ | decide | omega)
    clear F_h54_82 F_h54_83 F_h54_84 FR_h54 e_h59
    refine WX.ret0 rfl (kk h59 _ _ _ FR_h59 ?_ (Or.inr ⟨p + 1, by omega, rfl, rfl, rfl⟩))
    rw [F_h59_82]
    unfold tk
    first
      | (rw [if_pos ⟨h3, n_46⟩]; rfl)
      | rw [if_neg (fun z => absurd z.2 (Nat.not_lt.mpr n_46))]
set_option maxRecDepth 20000 in
theorem x_find {d n s : Nat} {h : Nat → aE} {D H : Nat → Nat} {dA eA : Nat → Int32} {U way least win e p : Nat} {fap fal fad fle fdi : Int32} (hn : 190 ≤ n) (hD : ∀ i, i < U → D i < 256 ∧ dA i = sb_b (D i)) (hU : U ≤ 16000) (hw : way ≤ 3) (hl3 : 3 ≤ least) (hl8 : least ≤ 8) (hwin : win < 2 ^ 30) (he : e ≤ U) (hp : p ≤ e) (hC : ChainAt H U eA) (hH : HashOk D H) (hA : AhOk D way least win e fap fal fad) (F_h_82 : h 82 = .inr (3, [.ref 83, .int (nI U), .ref 84, .ref 85, .int (nI way), .int (nI least), .int (nI win), .int (nI e), .int fle, .int fdi, .int fap, .int fal, .int fad])) (F_h_83 : h 83 = .inl (0, 16000, .inl dA)) (F_h_84 : h 84 = .inl (1, 16000, .inl eA))  {Ψ : Option Value → aH → Prop} (kk : ∀ h' dd ap al ad, Fr h h' (fun j => j = 82) → h' 82 = .inr (3, [.ref 83, .int (nI U), .ref 84, .ref 85, .int (nI way), .int (nI least), .int (nI win), .int (nI e), .int (nI (tk D way least win e p)), .int dd, .int ap, .int al, .int ad]) → (tk D way least win e p ≠ 0 → dd = nI (p - (mAt D (wy way) least win e p).2)) → AhOk D way least win e ap al ad → Ψ none (n, s, h')) : WO (mM (d + 4)) 39 [.ref 82, .int (nI p)] (n, s, h) Ψ := by
  refine WO.of (Nat.le_of_ble_eq_true rfl) ?_
  have FR_h : Fr h h (fun j => j = 82) := Fr.rf
  have hle1 := mAt_le D (wy way) least win e p
  show WX (lk tX3_find) (mM (d + 3)) Ψ 0 [(0, .ref 82), (1, .int (nI p))] [] (n, s, h)
  refine WX.s1 rfl rfl ?_
  refine WX.s1 rfl rfl ?_
  refine WX.get1 (fs := [.ref 83, .int (nI U), .ref 84, .ref 85, .int (nI way), .int (nI least), .int (nI win), .int (nI e), .int fle, .int fdi, .int fap, .int fal, .int fad]) rfl (ltN hn (by decide)) (F_h_82) rfl ?_
  refine WX.icmp rfl (fun c_5 => ?_) (fun c_5 => ?_)
  · skip
    refine WX.s1 rfl rfl ?_
    refine WX.s1 rfl rfl ?_
    refine WX.callC (vs := [.ref 82, .int (nI p)]) rfl rfl rfl (Nat.le_of_ble_eq_true rfl) (rcv_ok (ltN hn (by decide)) F_h_82) ?_
    refine x_search hn hD hU hw hl3 hl8 hwin he hp hC hH F_h_82 F_h_83 F_h_84 (fun h29 fr F_h29_82 => ?_)
    have F_h29_83 : h29 83 = .inl (0, 16000, .inl dA) := (fr _ (by first | decide | omega)).trans F_h_83
    have F_h29_84 : h29 84 = .inl (1, 16000, .inl eA) := (fr _ (by first | decide | omega)).trans F_h_84
    have FR_h29 : Fr h h29 (fun j => j = 82) := FR_h.ztr fr
    show WX _ _ _ 32 [(0, .ref 82), (1, .int (nI p))] [] (n, s, h29)
    refine WX.s1 rfl rfl ?_
    refine WX.get1 (fs := [.ref 83, .int (nI U), .ref 84, .ref 85, .int (nI way), .int (nI least), .int (nI win), .int (nI e), .int (nI (mAt D (wy way) least win e p).1), .int (nI (rd (mAt D (wy way) least win e p) p)), .int fap, .int fal, .int fad]) rfl (ltN hn (by decide)) (F_h29_82) rfl ?_
    refine WX.s1 rfl rfl ?_
    refine WX.icmp rfl (fun c_37 => ?_) (fun c_37 => ?_)
    · skip
      have n_37 : ¬ way = 3 := fun zz_ => c_37 ((nI_eq (a := way) (b := 3) (by omega) (by omega)).mpr zz_)
      have et : tk D way least win e p = (mAt D (wy way) least win e p).1 := by
        unfold tk
        first
          | exact if_neg (fun z => n_37 z.1)
          | (by_cases z : way = 3 ∧ (mAt D (wy way) least win e p).1 < (mAt D (wy way) least win e (p + 1)).1; (rw [if_pos z]; omega); (rw [if_neg z]))
      refine WX.ret0 rfl (kk h29 _ _ _ _ FR_h29 (by rw [et]; exact F_h29_82) (fun z => ?_) ?_)
      · rw [et] at z
        unfold rd
        rw [if_neg z]
      · exact hA
    · skip
      have n_37 : way = 3 := (nI_eq (a := way) (b := 3) (by omega) (by omega)).mp (Classical.not_not.mp c_37)
      refine WX.s1 rfl rfl ?_
      refine WX.get1 (fs := [.ref 83, .int (nI U), .ref 84, .ref 85, .int (nI way), .int (nI least), .int (nI win), .int (nI e), .int (nI (mAt D (wy way) least win e p).1), .int (nI (rd (mAt D (wy way) least win e p) p)), .int fap, .int fal, .int fad]) rfl (ltN hn (by decide)) (F_h29_82) rfl ?_
      refine WX.if_ rfl (fun c_44 => ?_) (fun c_44 => ?_)
      · skip
        have n_44 : ((mAt D (wy way) least win e p).1) ≤ 0 := (nI_leI (a := (mAt D (wy way) least win e p).1) (b := 0) (by omega) (by omega)).mp c_44
        have et : tk D way least win e p = (mAt D (wy way) least win e p).1 := by
          unfold tk
          first
            | exact if_neg (fun z => n_37 z.1)
            | (by_cases z : way = 3 ∧ (mAt D (wy way) least win e p).1 < (mAt D (wy way) least win e (p + 1)).1; (rw [if_pos z]; omega); (rw [if_neg z]))
        refine WX.ret0 rfl (kk h29 _ _ _ _ FR_h29 (by rw [et]; exact F_h29_82) (fun z => ?_) ?_)
        · rw [et] at z
          unfold rd
          rw [if_neg z]
        · exact hA
      · skip
        have n_44 : 0 < ((mAt D (wy way) least win e p).1) := Nat.lt_of_not_le (fun zz_ => c_44 ((nI_leI (a := (mAt D (wy way) least win e p).1) (b := 0) (by omega) (by omega)).mpr zz_))
        refine WX.s1 rfl rfl ?_
        refine WX.s1 rfl rfl ?_
        refine WX.callC (vs := [.ref 82, .int (nI p)]) rfl rfl rfl (Nat.le_of_ble_eq_true rfl) (rcv_ok (ltN hn (by decide)) F_h29_82) ?_
        refine x_look hn hD hU hw hl3 hl8 hwin he hp hC hH n_37 (by omega) F_h29_82 F_h29_83 F_h29_84 (fun h49 ap al ad fr F_h49_82 hA2 => ?_)
        show WX _ _ _ 52 [(0, .ref 82), (1, .int (nI p))] [] (n, s, h49)
        refine WX.ret0 rfl (kk h49 _ ap al ad (FR_h29.ztr fr) F_h49_82 (fun z => ?_) hA2)
        have e0 : (mAt D (wy way) least win e p).1 ≠ 0 := by omega
        unfold rd
        rw [if_neg e0]
  · skip
    obtain ⟨rfl, rfl⟩ : fal = nI (mAt D (wy way) least win e p).1 ∧ fad = nI (rd (mAt D (wy way) least win e p) p) := by
      have c5 := Classical.not_not.mp c_5
      rcases hA with q | ⟨x, hx, e1, e2, e3⟩
      · exact absurd (q.symm.trans c5.symm) (fun z => absurd (show (-1 : Int32) < nI p from neg1lt (by omega)) (by rw [← z]; decide))
      · obtain rfl : p = x := (nI_eq (by omega) (by omega)).mp (c5.trans e1)
        exact ⟨e2, e3⟩
    refine WX.s1 rfl rfl ?_
    refine WX.s1 rfl rfl ?_
    refine WX.get1 (fs := [.ref 83, .int (nI U), .ref 84, .ref 85, .int (nI way), .int (nI least), .int (nI win), .int (nI e), .int fle, .int fdi, .int fap, .int (nI (mAt D (wy way) least win e p).1), .int (nI (rd (mAt D (wy way) least win e p) p))]) rfl (ltN hn (by decide)) (F_h_82) rfl ?_
    refine WX.put1 (fs := [.ref 83, .int (nI U), .ref 84, .ref 85, .int (nI way), .int (nI least), .int (nI win), .int (nI e), .int fle, .int fdi, .int fap, .int (nI (mAt D (wy way) least win e p).1), .int (nI (rd (mAt D (wy way) least win e p) p))]) (fs' := [.ref 83, .int (nI U), .ref 84, .ref 85, .int (nI way), .int (nI least), .int (nI win), .int (nI e), .int (nI (mAt D (wy way) least win e p).1), .int fdi, .int fap, .int (nI (mAt D (wy way) least win e p).1), .int (nI (rd (mAt D (wy way) least win e p) p))]) rfl (ltN hn (by decide)) (F_h_82) (Nat.le_of_ble_eq_true rfl) (rfl) rfl (fun h13 e_h13 => ?_)
    have F_h13_82 : h13 82 = .inr (3, [.ref 83, .int (nI U), .ref 84, .ref 85, .int (nI way), .int (nI least), .int (nI win), .int (nI e), .int (nI (mAt D (wy way) least win e p).1), .int fdi, .int fap, .int (nI (mAt D (wy way) least win e p).1), .int (nI (rd (mAt D (wy way) least win e p) p))]) := by rw [e_h13]; exact va_up_eq
    have F_h13_83 : h13 83 = .inl (0, 16000, .inl dA) := by rw [e_h13, va_up_neq (by decide)]; exact F_h_83
    have F_h13_84 : h13 84 = .inl (1, 16000, .inl eA) := by rw [e_h13, va_up_neq (by decide)]; exact F_h_84
    have FR_h13 : Fr h h13 (fun j => j = 82) := FR_h.zup e_h13 (by first | exact rfl | exact Or.inl rfl | exact Or.inr rfl | exact ⟨by decide, by decide⟩ | decide | omega)
    clear F_h_82 F_h_83 F_h_84 FR_h e_h13
    refine WX.s1 rfl rfl ?_
    refine WX.s1 rfl rfl ?_
    refine WX.get1 (fs := [.ref 83, .int (nI U), .ref 84, .ref 85, .int (nI way), .int (nI least), .int (nI win), .int (nI e), .int (nI (mAt D (wy way) least win e p).1), .int fdi, .int fap, .int (nI (mAt D (wy way) least win e p).1), .int (nI (rd (mAt D (wy way) least win e p) p))]) rfl (ltN hn (by decide)) (F_h13_82) rfl ?_
    refine WX.put1 (fs := [.ref 83, .int (nI U), .ref 84, .ref 85, .int (nI way), .int (nI least), .int (nI win), .int (nI e), .int (nI (mAt D (wy way) least win e p).1), .int fdi, .int fap, .int (nI (mAt D (wy way) least win e p).1), .int (nI (rd (mAt D (wy way) least win e p) p))]) (fs' := [.ref 83, .int (nI U), .ref 84, .ref 85, .int (nI way), .int (nI least), .int (nI win), .int (nI e), .int (nI (mAt D (wy way) least win e p).1), .int (nI (rd (mAt D (wy way) least win e p) p)), .int fap, .int (nI (mAt D (wy way) least win e p).1), .int (nI (rd (mAt D (wy way) least win e p) p))]) rfl (ltN hn (by decide)) (F_h13_82) (Nat.le_of_ble_eq_true rfl) (rfl) rfl (fun h21 e_h21 => ?_)
    have F_h21_82 : h21 82 = .inr (3, [.ref 83, .int (nI U), .ref 84, .ref 85, .int (nI way), .int (nI least), .int (nI win), .int (nI e), .int (nI (mAt D (wy way) least win e p).1), .int (nI (rd (mAt D (wy way) least win e p) p)), .int fap, .int (nI (mAt D (wy way) least win e p).1), .int (nI (rd (mAt D (wy way) least win e p) p))]) := by rw [e_h21]; exact va_up_eq
    have F_h21_83 : h21 83 = .inl (0, 16000, .inl dA) := by rw [e_h21, va_up_neq (by decide)]; exact F_h13_83
    have F_h21_84 : h21 84 = .inl (1, 16000, .inl eA) := by rw [e_h21, va_up_neq (by decide)]; exact F_h13_84
    have FR_h21 : Fr h h21 (fun j => j = 82) := FR_h13.zup e_h21 (by first | exact rfl | exact Or.inl rfl | exact Or.inr rfl | exact ⟨by decide, by decide⟩ | decide | omega)
    clear F_h13_82 F_h13_83 F_h13_84 FR_h13 e_h21
    refine WX.s1 rfl rfl ?_
    refine WX.s1 rfl rfl ?_
    refine WX.get1 (fs := [.ref 83, .int (nI U), .ref 84, .ref 85, .int (nI way), .int (nI least), .int (nI win), .int (nI e), .int (nI (mAt D (wy way) least win e p).1), .int (nI (rd (mAt D (wy way) least win e p) p)), .int fap, .int (nI (mAt D (wy way) least win e p).1), .int (nI (rd (mAt D (wy way) least win e p) p))]) rfl (ltN hn (by decide)) (F_h21_82) rfl ?_
    refine WX.s1 rfl rfl ?_
    refine WX.icmp rfl (fun c_37 => ?_) (fun c_37 => ?_)
    · skip
      have n_37 : ¬ way = 3 := fun zz_ => c_37 ((nI_eq (a := way) (b := 3) (by omega) (by omega)).mpr zz_)
      have et : tk D way least win e p = (mAt D (wy way) least win e p).1 := by
        unfold tk
        first
          | exact if_neg (fun z => n_37 z.1)
          | (by_cases z : way = 3 ∧ (mAt D (wy way) least win e p).1 < (mAt D (wy way) least win e (p + 1)).1; (rw [if_pos z]; omega); (rw [if_neg z]))
      refine WX.ret0 rfl (kk h21 _ _ _ _ FR_h21 (by rw [et]; exact F_h21_82) (fun z => ?_) ?_)
      · rw [et] at z
        unfold rd
        rw [if_neg z]
      · exact hA
    · skip
      have n_37 : way = 3 := (nI_eq (a := way) (b := 3) (by omega) (by omega)).mp (Classical.not_not.mp c_37)
      refine WX.s1 rfl rfl ?_
      refine WX.get1 (fs := [.ref 83, .int (nI U), .ref 84, .ref 85, .int (nI way), .int (nI least), .int (nI win), .int (nI e), .int (nI (mAt D (wy way) least win e p).1), .int (nI (rd (mAt D (wy way) least win e p) p)), .int fap, .int (nI (mAt D (wy way) least win e p).1), .int (nI (rd (mAt D (wy way) least win e p) p))]) rfl (ltN hn (by decide)) (F_h21_82) rfl ?_
      refine WX.if_ rfl (fun c_44 => ?_) (fun c_44 => ?_)
      · skip
        have n_44 : ((mAt D (wy way) least win e p).1) ≤ 0 := (nI_leI (a := (mAt D (wy way) least win e p).1) (b := 0) (by omega) (by omega)).mp c_44
        have et : tk D way least win e p = (mAt D (wy way) least win e p).1 := by
          unfold tk
          first
            | exact if_neg (fun z => n_37 z.1)
            | (by_cases z : way = 3 ∧ (mAt D (wy way) least win e p).1 < (mAt D (wy way) least win e (p + 1)).1; (rw [if_pos z]; omega); (rw [if_neg z]))
        refine WX.ret0 rfl (kk h21 _ _ _ _ FR_h21 (by rw [et]; exact F_h21_82) (fun z => ?_) ?_)
        · rw [et] at z
          unfold rd
          rw [if_neg z]
        · exact hA
      · skip
        have n_44 : 0 < ((mAt D (wy way) least win e p).1) := Nat.lt_of_not_le (fun zz_ => c_44 ((nI_leI (a := (mAt D (wy way) least win e p).1) (b := 0) (by omega) (by omega)).mpr zz_))
        refine WX.s1 rfl rfl ?_
        refine WX.s1 rfl rfl ?_
        refine WX.callC (vs := [.ref 82, .int (nI p)]) rfl rfl rfl (Nat.le_of_ble_eq_true rfl) (rcv_ok (ltN hn (by decide)) F_h21_82) ?_
        refine x_look hn hD hU hw hl3 hl8 hwin he hp hC hH n_37 (by omega) F_h21_82 F_h21_83 F_h21_84 (fun h49 ap al ad fr F_h49_82 hA2 => ?_)
        show WX _ _ _ 52 [(0, .ref 82), (1, .int (nI p))] [] (n, s, h49)
        refine WX.ret0 rfl (kk h49 _ ap al ad (FR_h21.ztr fr) F_h49_82 (fun z => ?_) hA2)
        have e0 : (mAt D (wy way) least win e p).1 ≠ 0 := by omega
        unfold rd
        rw [if_neg e0]
