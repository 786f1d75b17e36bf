theorem nI_m1q (e : Nat) : nI e - 1 = qI e := by
  rw [Int32.sub_eq_add_neg]
  exact qI_dec e
theorem qI_ltN2 {a b : Nat} (ha : a < 2 ^ 30) (hb : b < 2 ^ 30) : qI a < nI b ↔ a ≤ b := by
  by_cases z : a = 0
  · rw [z]
    exact ⟨fun _ => Nat.zero_le _, fun _ => neg1lt (by omega)⟩
  · obtain ⟨y, rfl⟩ : ∃ y, a = y + 1 := ⟨a - 1, by omega⟩
    rw [qIs, nI_ltI (by omega) (by omega)]
    omega
/-! codes as they lie; settled, told, put -/
def CoA (h : Nat → aE) (k : Nat) (top th : Int32) (lA cA eA : Nat → Int32) : Prop := h k = .inr (0, [.ref (k + 1), .ref (k + 2), .ref (k + 3), .int top, .int th]) ∧ h (k + 1) = .inl (1, 256, .inl lA) ∧ h (k + 2) = .inl (1, 256, .inl cA) ∧ h (k + 3) = .inl (1, 13, .inl eA)
def CoX (h : Nat → aE) (k : Nat) : Prop := ∃ top th lA cA eA, CoA h k top th lA cA eA
def CoD (L : Nat → Nat) (t : Nat) (lA cA : Nat → Int32) : Prop := (∀ s, s < 256 → lA s = nI (L s)) ∧ (∀ s, s < 256 → L s ≠ 0 → cA s = nI (cdK L t s)) ∧ LenOk L t
def CoT (h : Nat → aE) (k : Nat) (L : Nat → Nat) (t : Nat) : Prop := ∃ lA cA eA, CoA h k (nI t) 1 lA cA eA ∧ CoD L t lA cA
def CoN (h : Nat → aE) (k : Nat) : Prop := ∃ top lA cA eA, CoA h k top 0 lA cA eA
abbrev Le : Type := (Nat → Nat) × Nat
def CoH (h : Nat → aE) (k : Nat) : Option Le → Prop
  | none => CoN h k
  | some t => CoT h k t.1 t.2
theorem CoA.zfr {h h1 : Nat → aE} {A : Nat → Prop} {k : Nat} {top th : Int32} {lA cA eA : Nat → Int32} (r : CoA h k top th lA cA eA) (f : Fr h h1 A) (q : ∀ j, k ≤ j → j ≤ k + 3 → ¬ A j) : CoA h1 k top th lA cA eA := ⟨(f _ (q _ (by omega) (by omega))).trans r.1, (f _ (q _ (by omega) (by omega))).trans r.2.1, (f _ (q _ (by omega) (by omega))).trans r.2.2.1, (f _ (q _ (by omega) (by omega))).trans r.2.2.2⟩
theorem CoX.zfr {h h1 : Nat → aE} {A : Nat → Prop} {k : Nat} (r : CoX h k) (f : Fr h h1 A) (q : ∀ j, k ≤ j → j ≤ k + 3 → ¬ A j) : CoX h1 k := by
  obtain ⟨a, b, c, d, e, r⟩ := r
  exact ⟨a, b, c, d, e, r.zfr f q⟩
theorem CoT.zfr {h h1 : Nat → aE} {A : Nat → Prop} {k t : Nat} {L : Nat → Nat} (r : CoT h k L t) (f : Fr h h1 A) (q : ∀ j, k ≤ j → j ≤ k + 3 → ¬ A j) : CoT h1 k L t := by
  obtain ⟨c, d, e, r, y⟩ := r
  exact ⟨c, d, e, r.zfr f q, y⟩
theorem CoN.zfr {h h1 : Nat → aE} {A : Nat → Prop} {k : Nat} (r : CoN h k) (f : Fr h h1 A) (q : ∀ j, k ≤ j → j ≤ k + 3 → ¬ A j) : CoN h1 k := by
  obtain ⟨a, c, d, e, r⟩ := r
  exact ⟨a, c, d, e, r.zfr f q⟩
theorem CoH.zfr {h h1 : Nat → aE} {A : Nat → Prop} {k : Nat} {t : Option Le} (r : CoH h k t) (f : Fr h h1 A) (q : ∀ j, k ≤ j → j ≤ k + 3 → ¬ A j) : CoH h1 k t := by
  cases t with
  | none => exact CoN.zfr r f q
  | some t => exact CoT.zfr r f q
theorem CoT.toX {h : Nat → aE} {k t : Nat} {L : Nat → Nat} (r : CoT h k L t) : CoX h k := by
  obtain ⟨c, d, e, r, y⟩ := r
  exact ⟨_, _, c, d, e, r⟩
theorem CoH.toX {h : Nat → aE} {k : Nat} {t : Option Le} (r : CoH h k t) : CoX h k := by
  cases t with
  | none =>
    obtain ⟨a, c, d, e, r⟩ := r
    exact ⟨_, _, c, d, e, r⟩
  | some t => exact CoT.toX r
theorem CoX.rcv {n s : Nat} {h : Nat → aE} {k : Nat} {vs : List Value} (r : CoX h k) (hk : k < n) : rcv 1 (.ref k :: vs) (n, s, h) = true := by
  obtain ⟨a, b, c, d, e, r⟩ := r
  exact rcv_ok hk r.1
theorem cpy0 {f g : Nat → Int32} {c i : Nat} (h : i < c) : va_cpy f g 0 0 c i = f i := by
  unfold va_cpy
  rw [if_pos ⟨Nat.zero_le _, by omega⟩, Nat.sub_zero, Nat.zero_add]
theorem cw_bd {L : Nat → Nat} {t v : Nat} (hv : v ≤ 11) : ∀ n, cwK L t v n ≤ 1024 * n := by
  intro n
  induction n with
  | zero => exact Nat.le_refl _
  | succ n ih =>
    have p : 2 ^ (v - 1) ≤ 2 ^ 10 := Nat.pow_le_pow_right (by decide) (by omega)
    show cwK L t v n + (if _ then 2 ^ (v - 1) else 0) ≤ _
    generalize 2 ^ (v - 1) = e at p ⊢
    rw [show (2 : Nat) ^ 10 = 1024 by decide] at p
    split <;> omega
theorem cd_le2 {L : Nat → Nat} {t s : Nat} (h : LenOk L t) (hs : s < 256) (hl : L s ≠ 0) : cdK L t s ≤ 2048 ∧ stK L t s < 2048 := by
  obtain ⟨q1, q2⟩ := st_in h hs hl
  have q3 : 2 ^ t ≤ 2 ^ 11 := Nat.pow_le_pow_right (by decide) h.2.1
  have q4 : 0 < 2 ^ (wgK L t s - 1) := Nat.pow_pos (by decide)
  rw [show (2 : Nat) ^ 11 = 2048 by decide] at q3
  have q5 : stK L t s < 2048 := by
    generalize 2 ^ (wgK L t s - 1) = a at *
    generalize 2 ^ t = b at *
    omega
  exact ⟨Nat.le_trans (Nat.div_le_self _ _) (Nat.le_of_lt q5), q5⟩
theorem bg_bd {L : Nat → Nat} {t : Nat} : ∀ v, v ≤ 12 → bgK L t v ≤ 262144 * (v - 1) := by
  have go : ∀ v, v ≤ 11 → sumN (fun u => cwK L t (u + 1) 256) v ≤ 262144 * v := by
    intro v
    induction v with
    | zero => intro _; exact Nat.le_refl _
    | succ v ih =>
      intro h
      have a := ih (by omega)
      have b := cw_bd (L := L) (t := t) (v := v + 1) (by omega) 256
      show sumN _ v + cwK L t (v + 1) 256 ≤ _
      omega
  exact fun v h => go (v - 1) (by omega)
theorem cw_0 {L : Nat → Nat} {t v : Nat} (h : LenOk L t) (hv : t < v) : ∀ n, n ≤ 256 → cwK L t v n = 0 := by
  intro n
  induction n with
  | zero => intro _; rfl
  | succ n ih =>
    intro hn
    show cwK L t v n + (if _ then 2 ^ (v - 1) else 0) = 0
    rw [ih (by omega), if_neg]
    intro z
    by_cases q : L n = 0
    · have : wgK L t n = 0 := if_pos q
      omega
    · have := wg_le h (show n < 256 by omega) q
      omega
set_option maxRecDepth 20000 in
theorem x_weight {d n s : Nat} {h : Nat → aE} {k t x : Nat} {L : Nat → Nat} {lA : Nat → Int32} {th : Int32}  (hk : k + 3 < n) (hx : x < 256) (hL : ∀ s, s < 256 → lA s = nI (L s)) (hlt : L x ≤ t) (ht : t ≤ 11) (F_h_k : h k = .inr (0, [.ref (k + 1), .ref (k + 2), .ref (k + 3), .int (nI t), .int th])) (F_h__k_1_ : h (k + 1) = .inl (1, 256, .inl lA))  {Ψ : Option Value → aH → Prop} (kk : Ψ (some (.int (nI (wgK L t x)))) (n, s, h)) : WO (mM (d + 1)) 2 [.ref k, .int (nI x)] (n, s, h) Ψ := by
  refine WO.of (Nat.le_of_ble_eq_true rfl) ?_
  have FR_h : Fr h h (fun j => False) := Fr.rf
  show WX (lk tX0_weight) (mM d) Ψ 0 [(0, .ref k), (1, .int (nI x))] [] (n, s, h)
  refine WX.s1 rfl rfl ?_
  refine WX.get1 (fs := [.ref (k + 1), .ref (k + 2), .ref (k + 3), .int (nI t), .int th]) rfl (by omega) (F_h_k) rfl ?_
  refine WX.s1 rfl rfl ?_
  refine WX.iald1 rfl (Or.inl (by omega)) (F_h__k_1_) (vp_in_nI (N := 256) (by omega) (by decide)) ?_
  rw [nI_clamp (by omega), hL x hx]
  refine WX.if_ rfl (fun c_6 => ?_) (fun c_6 => ?_)
  · skip
    have n_6 : ¬ (L x) = 0 := fun zz_ => c_6 ((nI_eq (a := L x) (b := 0) (by omega) (by omega)).mpr zz_)
    refine WX.s1 rfl rfl ?_
    refine WX.get1 (fs := [.ref (k + 1), .ref (k + 2), .ref (k + 3), .int (nI t), .int th]) rfl (by omega) (F_h_k) rfl ?_
    refine WX.s1 rfl rfl ?_
    refine WX.s1 (S' := [.int ((nI t) + 1)]) rfl rfl ?_
    rw [show ((nI t) + 1) = nI (t + 1) from nI_add t 1]
    refine WX.s1 rfl rfl ?_
    refine WX.get1 (fs := [.ref (k + 1), .ref (k + 2), .ref (k + 3), .int (nI t), .int th]) rfl (by omega) (F_h_k) rfl ?_
    refine WX.s1 rfl rfl ?_
    refine WX.iald1 rfl (Or.inl (by omega)) (F_h__k_1_) (vp_in_nI (N := 256) (by omega) (by decide)) ?_
    rw [nI_clamp (by omega), hL x hx]
    refine WX.s1 (S' := [.int ((nI (t + 1)) - (nI (L x)))]) rfl rfl ?_
    rw [nI_subN (by omega)]
    rw [show wgK L t x = t + 1 - L x from if_neg n_6] at kk
    exact WX.ret1 rfl kk
  · skip
    have n_6 : (L x) = 0 := (nI_eq (a := L x) (b := 0) (by omega) (by omega)).mp (Classical.not_not.mp c_6)
    refine WX.s1 rfl rfl ?_
    refine WX.s1 rfl rfl ?_
    rw [show wgK L t x = 0 from if_pos n_6] at kk
    exact WX.ret1 rfl kk
set_option maxRecDepth 20000 in
theorem x_cset {d n s : Nat} {h : Nat → aE} {k t : Nat} {L : Nat → Nat} {lA cA eA : Nat → Int32} {tp th : Int32}  (hk : k + 3 < n) (hLn : ∀ s, s < 256 → lA s = nI (L s)) (hok : LenOk L t) (F_h_k : h k = .inr (0, [.ref (k + 1), .ref (k + 2), .ref (k + 3), .int tp, .int th])) (F_h__k_1_ : h (k + 1) = .inl (1, 256, .inl lA)) (F_h__k_2_ : h (k + 2) = .inl (1, 256, .inl cA)) (F_h__k_3_ : h (k + 3) = .inl (1, 13, .inl eA))  {Ψ : Option Value → aH → Prop} (kk : ∀ h', Fr h h' (fun j => k ≤ j ∧ j ≤ k + 3) → CoT h' k L t → Ψ none (n, s, h')) : WO (mM (d + 2)) 3 [.ref k, .int (nI t)] (n, s, h) Ψ := by
  refine WO.of (Nat.le_of_ble_eq_true rfl) ?_
  have FR_h : Fr h h (fun j => k ≤ j ∧ j ≤ k + 3) := Fr.rf
  obtain ⟨ht1, ht2, hlt, hsum⟩ := id hok
  show WX (lk tX0_settle) (mM (d + 1)) Ψ 0 [(0, .ref k), (1, .int (nI t))] [] (n, s, h)
  refine WX.s1 rfl rfl ?_
  refine WX.s1 rfl rfl ?_
  refine WX.s1 rfl rfl ?_
  refine WX.s1 (S' := [.int (if 11 < (nI t) then 11 else (nI t)), .ref k]) rfl rfl ?_
  rw [show (if (11 : Int32) < nI t then (11 : Int32) else nI t) = nI t from if_neg (fun z => absurd ((nI_ltI (a := 11) (b := t) (by decide) (by omega)).mp z) (by omega))]
  refine WX.put1 (fs := [.ref (k + 1), .ref (k + 2), .ref (k + 3), .int tp, .int th]) (fs' := [.ref (k + 1), .ref (k + 2), .ref (k + 3), .int (nI t), .int th]) rfl (by omega) (F_h_k) (Nat.le_of_ble_eq_true rfl) (rfl) rfl (fun h7 e_h7 => ?_)
  have F_h7_k : h7 k = .inr (0, [.ref (k + 1), .ref (k + 2), .ref (k + 3), .int (nI t), .int th]) := by rw [e_h7]; exact va_up_eq
  have F_h7__k_1_ : h7 (k + 1) = .inl (1, 256, .inl lA) := by rw [e_h7, va_up_neq (nek0 (a := 1) (by decide))]; exact F_h__k_1_
  have F_h7__k_2_ : h7 (k + 2) = .inl (1, 256, .inl cA) := by rw [e_h7, va_up_neq (nek0 (a := 2) (by decide))]; exact F_h__k_2_
  have F_h7__k_3_ : h7 (k + 3) = .inl (1, 13, .inl eA) := by rw [e_h7, va_up_neq (nek0 (a := 3) (by decide))]; exact F_h__k_3_
  have FR_h7 : Fr h h7 (fun j => k ≤ j ∧ j ≤ k + 3) := FR_h.zup e_h7 (by first | exact rfl | exact Or.inl rfl | exact Or.inr rfl | exact ⟨by decide, by decide⟩ | decide | omega)
  clear F_h_k F_h__k_1_ F_h__k_2_ F_h__k_3_ FR_h e_h7
  refine WX.s1 rfl rfl ?_
  refine WX.get1 (fs := [.ref (k + 1), .ref (k + 2), .ref (k + 3), .int (nI t), .int th]) rfl (by omega) (F_h7_k) rfl ?_
  refine WX.s1 rfl rfl ?_
  refine WX.callC (vs := [.ref (k + 3), .int 0]) rfl rfl rfl (Nat.le_of_ble_eq_true rfl) rfl ?_
  refine w_fill (by omega) F_h7__k_3_ (by decide) (fun h15 g15 fr15 F_h15__k_3_ hg15 => ?_)
  have F_h15_k : h15 k = .inr (0, [.ref (k + 1), .ref (k + 2), .ref (k + 3), .int (nI t), .int th]) := (fr15 _ (by omega)).trans F_h7_k
  have F_h15__k_1_ : h15 (k + 1) = .inl (1, 256, .inl lA) := (fr15 _ (by omega)).trans F_h7__k_1_
  have F_h15__k_2_ : h15 (k + 2) = .inl (1, 256, .inl cA) := (fr15 _ (by omega)).trans F_h7__k_2_
  have FR_h15 : Fr h h15 (fun j => k ≤ j ∧ j ≤ k + 3) := FR_h7.zsub fr15 (fun j hj => by first | exact hj | exact Or.inl hj | exact Or.inr hj | omega)
  show WX _ _ _ 18 [(0, .ref k), (1, .int (nI t))] [] (n, s, h15)
  refine WX.s1 rfl rfl ?_
  refine WX.s1 (L' := [(0, .ref k), (1, .int (nI t)), (2, .int 0)]) rfl rfl ?_
  have lp : ∀ (q i : Nat) (hL : Nat → aE) (cM eM : Nat → Int32), i + q = 256 → Fr h hL (fun j => k ≤ j ∧ j ≤ k + 3) → hL k = .inr (0, [.ref (k + 1), .ref (k + 2), .ref (k + 3), .int (nI t), .int th]) → hL (k + 1) = .inl (1, 256, .inl lA) → hL (k + 2) = .inl (1, 256, .inl cM) → hL (k + 3) = .inl (1, 13, .inl eM) → (∀ v, v < 13 → eM v = nI (if v < 2 then 0 else cwK L t (v - 1) i)) → WX (lk tX0_settle) (mM (d + 1)) Ψ 20 [(0, .ref k), (1, .int (nI t)), (2, .int (nI i))] [] (n, s, hL) := by
    clear FR_h15 F_h15_k F_h15__k_1_ F_h15__k_2_ F_h15__k_3_
    intro q
    induction q with
    | zero =>
      intro i hL cM eM hi FR_hL F_hL_k F_hL__k_1_ F_hL__k_2_ F_hL__k_3_ he
      obtain rfl : i = 256 := by omega
      refine WX.s1 rfl rfl ?_
      refine WX.s1 rfl rfl ?_
      refine WX.get1 (fs := [.ref (k + 1), .ref (k + 2), .ref (k + 3), .int (nI t), .int th]) rfl (by omega) (F_hL_k) rfl ?_
      refine WX.len1 rfl (Or.inl ⟨by omega, by decide⟩) (F_hL__k_1_) ?_
      refine WX.icmp rfl (fun c_26 => ?_) (fun c_26 => absurd ((nI_leI (a := 256) (b := 256) (by omega) (by omega)).mpr (by omega)) c_26)
      clear c_26
      refine WX.s1 rfl rfl ?_
      refine WX.s1 (L' := [(0, .ref k), (1, .int (nI t)), (2, .int 1)]) rfl rfl ?_
      have lp2 : ∀ (q i : Nat) (hL : Nat → aE) (cM eM : Nat → Int32), 1 ≤ i → i + q = 13 → Fr h hL (fun j => k ≤ j ∧ j ≤ k + 3) → hL k = .inr (0, [.ref (k + 1), .ref (k + 2), .ref (k + 3), .int (nI t), .int th]) → hL (k + 1) = .inl (1, 256, .inl lA) → hL (k + 2) = .inl (1, 256, .inl cM) → hL (k + 3) = .inl (1, 13, .inl eM) → (∀ v, v < 13 → eM v = nI (if v < i then bgK L t v else (if v < 2 then 0 else cwK L t (v - 1) 256))) → WX (lk tX0_settle) (mM (d + 1)) Ψ 63 [(0, .ref k), (1, .int (nI t)), (2, .int (nI i))] [] (n, s, hL) := by
        clear FR_hL F_hL_k F_hL__k_1_ F_hL__k_2_ F_hL__k_3_ he
        intro q
        induction q with
        | zero =>
          intro i hL cM eM hi1 hi FR_hL F_hL_k F_hL__k_1_ F_hL__k_2_ F_hL__k_3_ he
          obtain rfl : i = 13 := by omega
          refine WX.s1 rfl rfl ?_
          refine WX.s1 rfl rfl ?_
          refine WX.get1 (fs := [.ref (k + 1), .ref (k + 2), .ref (k + 3), .int (nI t), .int th]) rfl (by omega) (F_hL_k) rfl ?_
          refine WX.len1 rfl (Or.inl ⟨by omega, by decide⟩) (F_hL__k_3_) ?_
          refine WX.icmp rfl (fun c_69 => ?_) (fun c_69 => absurd ((nI_leI (a := 13) (b := 13) (by omega) (by omega)).mpr (by omega)) c_69)
          clear c_69
          refine WX.s1 rfl rfl ?_
          refine WX.s1 (L' := [(0, .ref k), (1, .int (nI t)), (2, .int 0)]) rfl rfl ?_
          have lp3 : ∀ (q i : Nat) (hL : Nat → aE) (cM eM : Nat → Int32), i + q = 256 → Fr h hL (fun j => k ≤ j ∧ j ≤ k + 3) → hL k = .inr (0, [.ref (k + 1), .ref (k + 2), .ref (k + 3), .int (nI t), .int th]) → hL (k + 1) = .inl (1, 256, .inl lA) → hL (k + 2) = .inl (1, 256, .inl cM) → hL (k + 3) = .inl (1, 13, .inl eM) → (∀ v, v < 13 → eM v = nI (bgK L t v + (if v = 0 then 0 else cwK L t v i))) → (∀ s, s < i → L s ≠ 0 → cM s = nI (cdK L t s)) → WX (lk tX0_settle) (mM (d + 1)) Ψ 97 [(0, .ref k), (1, .int (nI t)), (2, .int (nI i))] [] (n, s, hL) := by
            clear FR_hL F_hL_k F_hL__k_1_ F_hL__k_2_ F_hL__k_3_ he
            intro q
            induction q with
            | zero =>
              intro i hL cM eM hi FR_hL F_hL_k F_hL__k_1_ F_hL__k_2_ F_hL__k_3_ he hcd
              obtain rfl : i = 256 := by omega
              refine WX.s1 rfl rfl ?_
              refine WX.s1 rfl rfl ?_
              refine WX.get1 (fs := [.ref (k + 1), .ref (k + 2), .ref (k + 3), .int (nI t), .int th]) rfl (by omega) (F_hL_k) rfl ?_
              refine WX.len1 rfl (Or.inl ⟨by omega, by decide⟩) (F_hL__k_1_) ?_
              refine WX.icmp rfl (fun c_103 => ?_) (fun c_103 => absurd ((nI_leI (a := 256) (b := 256) (by omega) (by omega)).mpr (by omega)) c_103)
              clear c_103
              refine WX.s1 rfl rfl ?_
              refine WX.s1 rfl rfl ?_
              refine WX.put1 (fs := [.ref (k + 1), .ref (k + 2), .ref (k + 3), .int (nI t), .int th]) (fs' := [.ref (k + 1), .ref (k + 2), .ref (k + 3), .int (nI t), .int 1]) rfl (by omega) (F_hL_k) (Nat.le_of_ble_eq_true rfl) (rfl) rfl (fun h154 e_h154 => ?_)
              have F_h154_k : h154 k = .inr (0, [.ref (k + 1), .ref (k + 2), .ref (k + 3), .int (nI t), .int 1]) := by rw [e_h154]; exact va_up_eq
              have F_h154__k_1_ : h154 (k + 1) = .inl (1, 256, .inl lA) := by rw [e_h154, va_up_neq (nek0 (a := 1) (by decide))]; exact F_hL__k_1_
              have F_h154__k_2_ : h154 (k + 2) = .inl (1, 256, .inl cM) := by rw [e_h154, va_up_neq (nek0 (a := 2) (by decide))]; exact F_hL__k_2_
              have F_h154__k_3_ : h154 (k + 3) = .inl (1, 13, .inl eM) := by rw [e_h154, va_up_neq (nek0 (a := 3) (by decide))]; exact F_hL__k_3_
              have FR_h154 : Fr h h154 (fun j => k ≤ j ∧ j ≤ k + 3) := FR_hL.zup e_h154 (by first | exact rfl | exact Or.inl rfl | exact Or.inr rfl | exact ⟨by decide, by decide⟩ | decide | omega)
              clear F_hL_k F_hL__k_1_ F_hL__k_2_ F_hL__k_3_ FR_hL e_h154
              exact WX.ret0 rfl (kk h154 FR_h154 ⟨lA, cM, eM, ⟨F_h154_k, F_h154__k_1_, F_h154__k_2_, F_h154__k_3_⟩, hLn, hcd, hok⟩)
            | succ q ih3 =>
              intro i hL cM eM hi FR_hL F_hL_k F_hL__k_1_ F_hL__k_2_ F_hL__k_3_ he hcd
              have hwi : wgK L t i ≤ 11 := by by_cases z : L i = 0; rw [show wgK L t i = 0 from if_pos z]; omega; have := wg_le hok (show i < 256 by omega) z; omega
              have hbd := cw_bd (L := L) (t := t) hwi i
              have hbg := bg_bd (L := L) (t := t) (wgK L t i) (by omega)
              refine WX.s1 rfl rfl ?_
              refine WX.s1 rfl rfl ?_
              refine WX.get1 (fs := [.ref (k + 1), .ref (k + 2), .ref (k + 3), .int (nI t), .int th]) rfl (by omega) (F_hL_k) rfl ?_
              refine WX.len1 rfl (Or.inl ⟨by omega, by decide⟩) (F_hL__k_1_) ?_
              refine WX.icmp rfl (fun c_103 => absurd c_103 (fun zz_ => absurd ((nI_leI (a := 256) (b := i) (by omega) (by omega)).mp zz_) (Nat.not_le.mpr (by omega)))) (fun c_103 => ?_)
              clear c_103
              refine WX.s1 rfl rfl ?_
              refine WX.s1 rfl rfl ?_
              refine WX.callC (vs := [.ref k, .int (nI i)]) rfl rfl rfl (Nat.le_of_ble_eq_true rfl) (rcv_ok (by omega) F_hL_k) ?_
              refine x_weight hk (by omega) hLn (hlt i (by omega)) ht2 F_hL_k F_hL__k_1_ ?_
              show WX _ _ _ 111 [(0, .ref k), (1, .int (nI t)), (2, .int (nI i))] [.int (nI (wgK L t i))] (n, s, hL)
              refine WX.s1 (L' := [(0, .ref k), (1, .int (nI t)), (2, .int (nI i)), (3, .int (nI (wgK L t i)))]) rfl rfl ?_
              refine WX.s1 rfl rfl ?_
              refine WX.if_ rfl (fun c_113 => ?_) (fun c_113 => ?_)
              · skip
                have n_113 : (wgK L t i) ≤ 0 := (nI_leI (a := wgK L t i) (b := 0) (by omega) (by omega)).mp c_113
                refine WX.s1 (L' := [(0, .ref k), (1, .int (nI t)), (2, .int ((nI i) + 1)), (3, .int (nI (wgK L t i)))]) rfl rfl ?_
                rw [show ((nI i) + 1) = nI (i + 1) from nI_add i 1]
                refine WX.s1 rfl rfl ?_
                refine WX.keep (y := 3) [0, 1, 2] (show ([0, 1, 2, 3] : List Nat).Nodup by decide) rfl ?_
                have hw0 : wgK L t i = 0 := by omega
                have hl0 : L i = 0 := by apply Classical.byContradiction; intro z; have := wg_le hok (show i < 256 by omega) z; omega
                refine ih3 (i + 1) hL cM eM (by omega) FR_hL F_hL_k F_hL__k_1_ F_hL__k_2_ F_hL__k_3_ (fun v hv => ?_) (fun s hs hl => ?_)
                · rw [he v hv]
                  by_cases z : v = 0
                  · rw [if_pos z, if_pos z]
                  · rw [if_neg z, if_neg z, cw_n (by omega)]
                · by_cases y : s = i
                  · rw [y] at hl; exact absurd hl0 hl
                  · exact hcd s (by omega) hl
              · skip
                have n_113 : 0 < (wgK L t i) := Nat.lt_of_not_le (fun zz_ => c_113 ((nI_leI (a := wgK L t i) (b := 0) (by omega) (by omega)).mpr zz_))
                refine WX.s1 rfl rfl ?_
                refine WX.get1 (fs := [.ref (k + 1), .ref (k + 2), .ref (k + 3), .int (nI t), .int th]) rfl (by omega) (F_hL_k) rfl ?_
                refine WX.s1 rfl rfl ?_
                refine WX.s1 rfl rfl ?_
                refine WX.get1 (fs := [.ref (k + 1), .ref (k + 2), .ref (k + 3), .int (nI t), .int th]) rfl (by omega) (F_hL_k) rfl ?_
                refine WX.s1 rfl rfl ?_
                refine WX.iald1 rfl (Or.inl (by omega)) (F_hL__k_3_) (vp_in_nI (N := 13) (by omega) (by decide)) ?_
                rw [nI_clamp (by omega), he _ (by omega), if_neg (by omega)]
                refine WX.s1 rfl rfl ?_
                refine WX.s1 rfl rfl ?_
                refine WX.s1 (S' := [.int ((nI (wgK L t i)) - 1), .int (nI (bgK L t (wgK L t i) + cwK L t (wgK L t i) i)), .int (nI i), .ref (k + 2)]) rfl rfl ?_
                rw [nI_pm1 (by omega)]
                refine WX.s1 (S' := [.int ((nI (bgK L t (wgK L t i) + cwK L t (wgK L t i) i)) >>> ((nI (wgK L t i - 1)) &&& 31)), .int (nI i), .ref (k + 2)]) rfl rfl ?_
                rw [show nI (bgK L t (wgK L t i) + cwK L t (wgK L t i) i) >>> (nI (wgK L t i - 1) &&& 31) = nI ((bgK L t (wgK L t i) + cwK L t (wgK L t i) i) / 2 ^ (wgK L t i - 1)) from pk_shrN (by omega) _ _ (sm31 _ (by omega))]
                refine WX.iastN rfl (by omega) (F_hL__k_2_) (vp_in_nI (N := 256) (by omega) (by decide)) (fun g131 h131 e_g131 e_h131 => ?_)
                try dsimp only at e_g131
                have F_h131_k : h131 k = .inr (0, [.ref (k + 1), .ref (k + 2), .ref (k + 3), .int (nI t), .int th]) := by rw [e_h131, va_up_neq (nek1 (a := 2) (by decide))]; exact F_hL_k
                have F_h131__k_1_ : h131 (k + 1) = .inl (1, 256, .inl lA) := by rw [e_h131, va_up_neq (nek (a := 1) (b := 2) (by decide))]; exact F_hL__k_1_
                have F_h131__k_2_ : h131 (k + 2) = .inl (1, 256, .inl g131) := by rw [e_h131]; exact va_up_eq
                have F_h131__k_3_ : h131 (k + 3) = .inl (1, 13, .inl eM) := by rw [e_h131, va_up_neq (nek (a := 3) (b := 2) (by decide))]; exact F_hL__k_3_
                have FR_h131 : Fr h h131 (fun j => k ≤ j ∧ j ≤ k + 3) := FR_hL.zup e_h131 (by first | exact rfl | exact Or.inl rfl | exact Or.inr rfl | exact ⟨by decide, by decide⟩ | decide | omega)
                clear F_hL_k F_hL__k_1_ F_hL__k_2_ F_hL__k_3_ FR_hL e_h131
                refine WX.s1 rfl rfl ?_
                refine WX.get1 (fs := [.ref (k + 1), .ref (k + 2), .ref (k + 3), .int (nI t), .int th]) rfl (by omega) (F_h131_k) rfl ?_
                refine WX.s1 rfl rfl ?_
                refine WX.s1 rfl rfl ?_
                refine WX.iald1 rfl (Or.inl (by omega)) (F_h131__k_3_) (vp_in_nI (N := 13) (by omega) (by decide)) ?_
                rw [nI_clamp (by omega), he _ (by omega), if_neg (by omega)]
                refine WX.s1 rfl rfl ?_
                refine WX.s1 rfl rfl ?_
                refine WX.s1 rfl rfl ?_
                refine WX.s1 (S' := [.int ((nI (wgK L t i)) - 1), .int 1, .int (nI (bgK L t (wgK L t i) + cwK L t (wgK L t i) i)), .int (nI (wgK L t i)), .ref (k + 3)]) rfl rfl ?_
                rw [nI_pm1 (by omega)]
                refine WX.s1 (S' := [.int (1 <<< ((nI (wgK L t i - 1)) &&& 31)), .int (nI (bgK L t (wgK L t i) + cwK L t (wgK L t i) i)), .int (nI (wgK L t i)), .ref (k + 3)]) rfl rfl ?_
                rw [sh1 (wgK L t i - 1) (by omega)]
                refine WX.s1 (S' := [.int ((nI (bgK L t (wgK L t i) + cwK L t (wgK L t i) i)) + (nI (2 ^ (wgK L t i - 1)))), .int (nI (wgK L t i)), .ref (k + 3)]) rfl rfl ?_
                rw [show ((nI (bgK L t (wgK L t i) + cwK L t (wgK L t i) i)) + (nI (2 ^ (wgK L t i - 1)))) = nI (bgK L t (wgK L t i) + cwK L t (wgK L t i) i + (2 ^ (wgK L t i - 1))) from nI_add (bgK L t (wgK L t i) + cwK L t (wgK L t i) i) (2 ^ (wgK L t i - 1))]
                refine WX.iastN rfl (by omega) (F_h131__k_3_) (vp_in_nI (N := 13) (by omega) (by decide)) (fun g145 h145 e_g145 e_h145 => ?_)
                try dsimp only at e_g145
                have F_h145_k : h145 k = .inr (0, [.ref (k + 1), .ref (k + 2), .ref (k + 3), .int (nI t), .int th]) := by rw [e_h145, va_up_neq (nek1 (a := 3) (by decide))]; exact F_h131_k
                have F_h145__k_1_ : h145 (k + 1) = .inl (1, 256, .inl lA) := by rw [e_h145, va_up_neq (nek (a := 1) (b := 3) (by decide))]; exact F_h131__k_1_
                have F_h145__k_2_ : h145 (k + 2) = .inl (1, 256, .inl g131) := by rw [e_h145, va_up_neq (nek (a := 2) (b := 3) (by decide))]; exact F_h131__k_2_
                have F_h145__k_3_ : h145 (k + 3) = .inl (1, 13, .inl g145) := by rw [e_h145]; exact va_up_eq
                have FR_h145 : Fr h h145 (fun j => k ≤ j ∧ j ≤ k + 3) := FR_h131.zup e_h145 (by first | exact rfl | exact Or.inl rfl | exact Or.inr rfl | exact ⟨by decide, by decide⟩ | decide | omega)
                clear F_h131_k F_h131__k_1_ F_h131__k_2_ F_h131__k_3_ FR_h131 e_h145
                refine WX.s1 (L' := [(0, .ref k), (1, .int (nI t)), (2, .int ((nI i) + 1)), (3, .int (nI (wgK L t i)))]) rfl rfl ?_
                rw [show ((nI i) + 1) = nI (i + 1) from nI_add i 1]
                refine WX.s1 rfl rfl ?_
                refine WX.keep (y := 3) [0, 1, 2] (show ([0, 1, 2, 3] : List Nat).Nodup by decide) rfl ?_
                rw [nI_clamp (by omega)] at e_g145 e_g131
                refine ih3 (i + 1) h145 g131 g145 (by omega) FR_h145 F_h145_k F_h145__k_1_ F_h145__k_2_ F_h145__k_3_ (fun v hv => ?_) (fun s hs hl => ?_)
                · rw [e_g145]
                  by_cases y : v = wgK L t i
                  · rw [y, pk_us, if_neg (by omega), cw_s rfl, Nat.add_assoc]
                  · rw [pk_un y, he v hv]
                    by_cases z : v = 0
                    · rw [if_pos z, if_pos z]
                    · rw [if_neg z, if_neg z, cw_n (by omega)]
                · rw [e_g131]
                  by_cases y : s = i
                  · rw [y, pk_us]; rfl
                  · rw [pk_un y]; exact hcd s (by omega) hl
          exact lp3 256 0 hL cM eM (by omega) FR_hL F_hL_k F_hL__k_1_ F_hL__k_2_ F_hL__k_3_ (fun v hv => by rw [he v hv, if_pos hv]; exact congrArg nI (by split <;> rfl)) (fun s hs => absurd hs (Nat.not_lt_zero s))
        | succ q ih2 =>
          intro i hL cM eM hi1 hi FR_hL F_hL_k F_hL__k_1_ F_hL__k_2_ F_hL__k_3_ he
          have hb1 := bg_bd (L := L) (t := t) (i - 1) (by omega)
          have h1 := he i (by omega)
          have h2 := he (i - 1) (by omega)
          rw [if_neg (Nat.lt_irrefl i)] at h1
          rw [if_pos (by omega)] at h2
          have hst : (if i < 2 then 0 else cwK L t (i - 1) 256) + bgK L t (i - 1) = bgK L t i := by
            by_cases z : i < 2
            · rw [if_pos z, show i = 1 by omega]; rfl
            · obtain ⟨y, hy⟩ : ∃ y, i = y + 2 := ⟨i - 2, by omega⟩
              rw [if_neg z, hy, bg_s, show y + 2 - 1 = y + 1 by omega]; omega
          have hb2 : (if i < 2 then 0 else cwK L t (i - 1) 256) ≤ 262144 := by
            by_cases z : i < 2
            · rw [if_pos z]; omega
            · rw [if_neg z]; exact Nat.le_trans (cw_bd (by omega) 256) (by decide)
          generalize (if i < 2 then 0 else cwK L t (i - 1) 256) = ei at h1 hst hb2
          refine WX.s1 rfl rfl ?_
          refine WX.s1 rfl rfl ?_
          refine WX.get1 (fs := [.ref (k + 1), .ref (k + 2), .ref (k + 3), .int (nI t), .int th]) rfl (by omega) (F_hL_k) rfl ?_
          refine WX.len1 rfl (Or.inl ⟨by omega, by decide⟩) (F_hL__k_3_) ?_
          refine WX.icmp rfl (fun c_69 => absurd c_69 (fun zz_ => absurd ((nI_leI (a := 13) (b := i) (by omega) (by omega)).mp zz_) (Nat.not_le.mpr (by omega)))) (fun c_69 => ?_)
          clear c_69
          refine WX.s1 rfl rfl ?_
          refine WX.get1 (fs := [.ref (k + 1), .ref (k + 2), .ref (k + 3), .int (nI t), .int th]) rfl (by omega) (F_hL_k) rfl ?_
          refine WX.s1 rfl rfl ?_
          refine WX.s1 rfl rfl ?_
          refine WX.iald1 rfl (Or.inl (by omega)) (F_hL__k_3_) (vp_in_nI (N := 13) (by omega) (by decide)) ?_
          rw [nI_clamp (by omega), h1]
          refine WX.s1 rfl rfl ?_
          refine WX.get1 (fs := [.ref (k + 1), .ref (k + 2), .ref (k + 3), .int (nI t), .int th]) rfl (by omega) (F_hL_k) rfl ?_
          refine WX.s1 rfl rfl ?_
          refine WX.s1 rfl rfl ?_
          refine WX.s1 (S' := [.int ((nI i) - 1), .ref (k + 3), .int (nI ei), .int (nI i), .ref (k + 3)]) rfl rfl ?_
          rw [nI_pm1 (by omega)]
          refine WX.iald1 rfl (Or.inl (by omega)) (F_hL__k_3_) (vp_in_nI (N := 13) (by omega) (by decide)) ?_
          rw [nI_clamp (by omega), h2]
          refine WX.s1 (S' := [.int ((nI ei) + (nI (bgK L t (i - 1)))), .int (nI i), .ref (k + 3)]) rfl rfl ?_
          rw [show ((nI ei) + (nI (bgK L t (i - 1)))) = nI (ei + (bgK L t (i - 1))) from nI_add ei (bgK L t (i - 1))]
          refine WX.iastN rfl (by omega) (F_hL__k_3_) (vp_in_nI (N := 13) (by omega) (by decide)) (fun g88 h88 e_g88 e_h88 => ?_)
          try dsimp only at e_g88
          have F_h88_k : h88 k = .inr (0, [.ref (k + 1), .ref (k + 2), .ref (k + 3), .int (nI t), .int th]) := by rw [e_h88, va_up_neq (nek1 (a := 3) (by decide))]; exact F_hL_k
          have F_h88__k_1_ : h88 (k + 1) = .inl (1, 256, .inl lA) := by rw [e_h88, va_up_neq (nek (a := 1) (b := 3) (by decide))]; exact F_hL__k_1_
          have F_h88__k_2_ : h88 (k + 2) = .inl (1, 256, .inl cM) := by rw [e_h88, va_up_neq (nek (a := 2) (b := 3) (by decide))]; exact F_hL__k_2_
          have F_h88__k_3_ : h88 (k + 3) = .inl (1, 13, .inl g88) := by rw [e_h88]; exact va_up_eq
          have FR_h88 : Fr h h88 (fun j => k ≤ j ∧ j ≤ k + 3) := FR_hL.zup e_h88 (by first | exact rfl | exact Or.inl rfl | exact Or.inr rfl | exact ⟨by decide, by decide⟩ | decide | omega)
          clear F_hL_k F_hL__k_1_ F_hL__k_2_ F_hL__k_3_ FR_hL e_h88
          refine WX.s1 (L' := [(0, .ref k), (1, .int (nI t)), (2, .int ((nI i) + 1))]) rfl rfl ?_
          rw [show ((nI i) + 1) = nI (i + 1) from nI_add i 1]
          refine WX.s1 rfl rfl ?_
          rw [nI_clamp (by omega)] at e_g88
          refine ih2 (i + 1) h88 cM g88 (by omega) (by omega) FR_h88 F_h88_k F_h88__k_1_ F_h88__k_2_ F_h88__k_3_ (fun v hv => ?_)
          rw [e_g88]
          by_cases y : v = i
          · rw [y, pk_us, if_pos (by omega), hst]
          · rw [pk_un y, he v hv]
            by_cases z : v < i
            · rw [if_pos z, if_pos (by omega)]
            · rw [if_neg z, if_neg (show ¬ v < i + 1 by omega)]
      exact lp2 12 1 hL cM eM (by decide) (by decide) FR_hL F_hL_k F_hL__k_1_ F_hL__k_2_ F_hL__k_3_ (fun v hv => by rw [he v hv]; by_cases z : v < 1; rw [if_pos z, if_pos (by omega), show v = 0 by omega]; rfl; rw [if_neg z])
    | succ q ih =>
      intro i hL cM eM hi FR_hL F_hL_k F_hL__k_1_ F_hL__k_2_ F_hL__k_3_ he
      have hwi : wgK L t i ≤ 11 := by by_cases z : L i = 0; rw [show wgK L t i = 0 from if_pos z]; omega; have := wg_le hok (show i < 256 by omega) z; omega
      have hbd := cw_bd (L := L) (t := t) hwi i
      refine WX.s1 rfl rfl ?_
      refine WX.s1 rfl rfl ?_
      refine WX.get1 (fs := [.ref (k + 1), .ref (k + 2), .ref (k + 3), .int (nI t), .int th]) rfl (by omega) (F_hL_k) rfl ?_
      refine WX.len1 rfl (Or.inl ⟨by omega, by decide⟩) (F_hL__k_1_) ?_
      refine WX.icmp rfl (fun c_26 => absurd c_26 (fun zz_ => absurd ((nI_leI (a := 256) (b := i) (by omega) (by omega)).mp zz_) (Nat.not_le.mpr (by omega)))) (fun c_26 => ?_)
      clear c_26
      refine WX.s1 rfl rfl ?_
      refine WX.s1 rfl rfl ?_
      refine WX.callC (vs := [.ref k, .int (nI i)]) rfl rfl rfl (Nat.le_of_ble_eq_true rfl) (rcv_ok (by omega) F_hL_k) ?_
      refine x_weight hk (by omega) hLn (hlt i (by omega)) ht2 F_hL_k F_hL__k_1_ ?_
      show WX _ _ _ 34 [(0, .ref k), (1, .int (nI t)), (2, .int (nI i))] [.int (nI (wgK L t i))] (n, s, hL)
      refine WX.s1 (L' := [(0, .ref k), (1, .int (nI t)), (2, .int (nI i)), (3, .int (nI (wgK L t i)))]) rfl rfl ?_
      refine WX.s1 rfl rfl ?_
      refine WX.if_ rfl (fun c_36 => ?_) (fun c_36 => ?_)
      · skip
        have n_36 : (wgK L t i) ≤ 0 := (nI_leI (a := wgK L t i) (b := 0) (by omega) (by omega)).mp c_36
        refine WX.s1 (L' := [(0, .ref k), (1, .int (nI t)), (2, .int ((nI i) + 1)), (3, .int (nI (wgK L t i)))]) rfl rfl ?_
        rw [show ((nI i) + 1) = nI (i + 1) from nI_add i 1]
        refine WX.s1 rfl rfl ?_
        refine WX.keep (y := 3) [0, 1, 2] (show ([0, 1, 2, 3] : List Nat).Nodup by decide) rfl ?_
        refine ih (i + 1) hL cM eM (by omega) FR_hL F_hL_k F_hL__k_1_ F_hL__k_2_ F_hL__k_3_ (fun v hv => ?_)
        rw [he v hv]
        by_cases z : v < 2
        · rw [if_pos z, if_pos z]
        · rw [if_neg z, if_neg z, cw_n (by omega)]
      · skip
        have n_36 : 0 < (wgK L t i) := Nat.lt_of_not_le (fun zz_ => c_36 ((nI_leI (a := wgK L t i) (b := 0) (by omega) (by omega)).mpr zz_))
        refine WX.s1 rfl rfl ?_
        refine WX.get1 (fs := [.ref (k + 1), .ref (k + 2), .ref (k + 3), .int (nI t), .int th]) rfl (by omega) (F_hL_k) rfl ?_
        refine WX.s1 rfl rfl ?_
        refine WX.s1 rfl rfl ?_
        refine WX.s1 (S' := [.int ((nI (wgK L t i)) + 1), .ref (k + 3)]) rfl rfl ?_
        rw [show ((nI (wgK L t i)) + 1) = nI (wgK L t i + 1) from nI_add (wgK L t i) 1]
        refine WX.s1 rfl rfl ?_
        refine WX.iald1 rfl (Or.inl (by omega)) (F_hL__k_3_) (vp_in_nI (N := 13) (by omega) (by decide)) ?_
        rw [nI_clamp (by omega), he _ (by omega), if_neg (by omega), Nat.add_sub_cancel]
        refine WX.s1 rfl rfl ?_
        refine WX.s1 rfl rfl ?_
        refine WX.s1 rfl rfl ?_
        refine WX.s1 (S' := [.int ((nI (wgK L t i)) - 1), .int 1, .int (nI (cwK L t (wgK L t i) i)), .int (nI (wgK L t i + 1)), .ref (k + 3)]) rfl rfl ?_
        rw [nI_pm1 (by omega)]
        refine WX.s1 (S' := [.int (1 <<< ((nI (wgK L t i - 1)) &&& 31)), .int (nI (cwK L t (wgK L t i) i)), .int (nI (wgK L t i + 1)), .ref (k + 3)]) rfl rfl ?_
        rw [sh1 (wgK L t i - 1) (by omega)]
        refine WX.s1 (S' := [.int ((nI (cwK L t (wgK L t i) i)) + (nI (2 ^ (wgK L t i - 1)))), .int (nI (wgK L t i + 1)), .ref (k + 3)]) rfl rfl ?_
        rw [show ((nI (cwK L t (wgK L t i) i)) + (nI (2 ^ (wgK L t i - 1)))) = nI (cwK L t (wgK L t i) i + (2 ^ (wgK L t i - 1))) from nI_add (cwK L t (wgK L t i) i) (2 ^ (wgK L t i - 1))]
        refine WX.iastN rfl (by omega) (F_hL__k_3_) (vp_in_nI (N := 13) (by omega) (by decide)) (fun g54 h54 e_g54 e_h54 => ?_)
        try dsimp only at e_g54
        have F_h54_k : h54 k = .inr (0, [.ref (k + 1), .ref (k + 2), .ref (k + 3), .int (nI t), .int th]) := by rw [e_h54, va_up_neq (nek1 (a := 3) (by decide))]; exact F_hL_k
        have F_h54__k_1_ : h54 (k + 1) = .inl (1, 256, .inl lA) := by rw [e_h54, va_up_neq (nek (a := 1) (b := 3) (by decide))]; exact F_hL__k_1_
        have F_h54__k_2_ : h54 (k + 2) = .inl (1, 256, .inl cM) := by rw [e_h54, va_up_neq (nek (a := 2) (b := 3) (by decide))]; exact F_hL__k_2_
        have F_h54__k_3_ : h54 (k + 3) = .inl (1, 13, .inl g54) := by rw [e_h54]; exact va_up_eq
        have FR_h54 : Fr h h54 (fun j => k ≤ j ∧ j ≤ k + 3) := FR_hL.zup e_h54 (by first | exact rfl | exact Or.inl rfl | exact Or.inr rfl | exact ⟨by decide, by decide⟩ | decide | omega)
        clear F_hL_k F_hL__k_1_ F_hL__k_2_ F_hL__k_3_ FR_hL e_h54
        refine WX.s1 (L' := [(0, .ref k), (1, .int (nI t)), (2, .int ((nI i) + 1)), (3, .int (nI (wgK L t i)))]) rfl rfl ?_
        rw [show ((nI i) + 1) = nI (i + 1) from nI_add i 1]
        refine WX.s1 rfl rfl ?_
        refine WX.keep (y := 3) [0, 1, 2] (show ([0, 1, 2, 3] : List Nat).Nodup by decide) rfl ?_
        rw [nI_clamp (by omega)] at e_g54
        refine ih (i + 1) h54 cM g54 (by omega) FR_h54 F_h54_k F_h54__k_1_ F_h54__k_2_ F_h54__k_3_ (fun v hv => ?_)
        rw [e_g54]
        by_cases y : v = wgK L t i + 1
        · rw [y, pk_us, if_neg (by omega), Nat.add_sub_cancel, cw_s rfl]
        · rw [pk_un y, he v hv]
          by_cases z : v < 2
          · rw [if_pos z, if_pos z]
          · rw [if_neg z, if_neg z, cw_n (by omega)]
  exact lp 256 0 h15 cA g15 (by omega) FR_h15 F_h15_k F_h15__k_1_ F_h15__k_2_ F_h15__k_3_ (fun v hv => by rw [hg15 v hv]; show (0 : Int32) = nI (if v < 2 then 0 else 0); split <;> rfl)
set_option maxRecDepth 20000 in
theorem x_cCan {d n s : Nat} {h : Nat → aE} {k q : Nat} {L cnt : Nat → Nat} {lA nA : Nat → Int32} {tp : Int32}  (hk : k + 3 < n) (hq : q < n) (hL : ∀ s, s < 256 → lA s = nI (L s) ∧ L s < 2 ^ 30) (hc : ∀ s, s < 256 → nA s = nI (cnt s) ∧ cnt s < 2 ^ 30) (F_h_k : h k = .inr (0, [.ref (k + 1), .ref (k + 2), .ref (k + 3), .int tp, .int 1])) (F_h__k_1_ : h (k + 1) = .inl (1, 256, .inl lA)) (F_h_q : h q = .inl (1, 256, .inl nA))  {Ψ : Option Value → aH → Prop} (kk1 : (∀ s, s < 256 → cnt s ≠ 0 → L s ≠ 0) → Ψ (some (.int 1)) (n, s, h)) (kk2 : (∃ s, s < 256 ∧ cnt s ≠ 0 ∧ L s = 0) → Ψ (some (.int 0)) (n, s, h)) : WO (mM (d + 1)) 4 [.ref k, .ref q] (n, s, h) Ψ := by
  refine WO.of (Nat.le_of_ble_eq_true rfl) ?_
  have FR_h : Fr h h (fun j => False) := Fr.rf
  show WX (lk tX0_canTell) (mM d) Ψ 0 [(0, .ref k), (1, .ref q)] [] (n, s, h)
  refine WX.s1 rfl rfl ?_
  refine WX.get1 (fs := [.ref (k + 1), .ref (k + 2), .ref (k + 3), .int tp, .int 1]) rfl (by omega) (F_h_k) rfl ?_
  refine WX.if_ rfl (fun c_4 => ?_) (fun c_4 => absurd (by decide) c_4)
  clear c_4
  refine WX.s1 rfl rfl ?_
  refine WX.s1 (L' := [(0, .ref k), (1, .ref q), (2, .int 0)]) rfl rfl ?_
  have lp : ∀ (t i : Nat), i + t = 256 → (∀ s, s < i → cnt s ≠ 0 → L s ≠ 0) → WX (lk tX0_canTell) (mM d) Ψ 11 [(0, .ref k), (1, .ref q), (2, .int (nI i))] [] (n, s, h) := by
    intro t
    induction t with
    | zero =>
      intro i hi ha
      obtain rfl : i = 256 := by omega
      refine WX.s1 rfl rfl ?_
      refine WX.s1 rfl rfl ?_
      refine WX.len1 rfl (Or.inl ⟨by omega, by decide⟩) (F_h_q) ?_
      refine WX.icmp rfl (fun c_14 => ?_) (fun c_14 => absurd ((nI_leI (a := 256) (b := 256) (by omega) (by omega)).mpr (by omega)) c_14)
      clear c_14
      refine WX.s1 rfl rfl ?_
      exact WX.ret3 rfl (by decide) (kk1 ha)
    | succ t ih =>
      intro i hi ha
      have h1 := hc i (by omega)
      have h2 := hL i (by omega)
      refine WX.s1 rfl rfl ?_
      refine WX.s1 rfl rfl ?_
      refine WX.len1 rfl (Or.inl ⟨by omega, by decide⟩) (F_h_q) ?_
      refine WX.icmp rfl (fun c_14 => absurd c_14 (fun zz_ => absurd ((nI_leI (a := 256) (b := i) (by omega) (by omega)).mp zz_) (Nat.not_le.mpr (by omega)))) (fun c_14 => ?_)
      clear c_14
      refine WX.s1 rfl rfl ?_
      refine WX.s1 rfl rfl ?_
      refine WX.get1 (fs := [.ref (k + 1), .ref (k + 2), .ref (k + 3), .int tp, .int 1]) rfl (by omega) (F_h_k) rfl ?_
      refine WX.len1 rfl (Or.inl ⟨by omega, by decide⟩) (F_h__k_1_) ?_
      refine WX.icmp rfl (fun c_23 => absurd c_23 (fun zz_ => absurd ((nI_leI (a := 256) (b := i) (by omega) (by omega)).mp zz_) (Nat.not_le.mpr (by omega)))) (fun c_23 => ?_)
      clear c_23
      refine WX.s1 rfl rfl ?_
      refine WX.s1 rfl rfl ?_
      refine WX.iald1 rfl (Or.inl (by omega)) (F_h_q) (vp_in_nI (N := 256) (by omega) (by decide)) ?_
      rw [nI_clamp (by omega), h1.1]
      refine WX.if_ rfl (fun c_29 => ?_) (fun c_29 => ?_)
      · skip
        have n_29 : (cnt i) ≤ 0 := (nI_leI (a := cnt i) (b := 0) (by omega) (by omega)).mp c_29
        refine WX.s1 (L' := [(0, .ref k), (1, .ref q), (2, .int ((nI i) + 1))]) rfl rfl ?_
        rw [show ((nI i) + 1) = nI (i + 1) from nI_add i 1]
        refine WX.s1 rfl rfl ?_
        refine ih (i + 1) (by omega) (fun s hs => ?_)
        by_cases z : s = i
        · rw [z]; intro y; omega
        · exact ha s (by omega)
      · skip
        have n_29 : 0 < (cnt i) := Nat.lt_of_not_le (fun zz_ => c_29 ((nI_leI (a := cnt i) (b := 0) (by omega) (by omega)).mpr zz_))
        refine WX.s1 rfl rfl ?_
        refine WX.get1 (fs := [.ref (k + 1), .ref (k + 2), .ref (k + 3), .int tp, .int 1]) rfl (by omega) (F_h_k) rfl ?_
        refine WX.s1 rfl rfl ?_
        refine WX.iald1 rfl (Or.inl (by omega)) (F_h__k_1_) (vp_in_nI (N := 256) (by omega) (by decide)) ?_
        rw [nI_clamp (by omega), h2.1]
        refine WX.if_ rfl (fun c_38 => ?_) (fun c_38 => ?_)
        · skip
          have n_38 : ¬ (L i) = 0 := fun zz_ => c_38 ((nI_eq (a := L i) (b := 0) (by omega) (by omega)).mpr zz_)
          refine WX.s1 (L' := [(0, .ref k), (1, .ref q), (2, .int ((nI i) + 1))]) rfl rfl ?_
          rw [show ((nI i) + 1) = nI (i + 1) from nI_add i 1]
          refine WX.s1 rfl rfl ?_
          refine ih (i + 1) (by omega) (fun s hs => ?_)
          by_cases z : s = i
          · rw [z]; intro y; exact n_38
          · exact ha s (by omega)
        · skip
          have n_38 : (L i) = 0 := (nI_eq (a := L i) (b := 0) (by omega) (by omega)).mp (Classical.not_not.mp c_38)
          refine WX.s1 rfl rfl ?_
          exact WX.ret3 rfl (by decide) (kk2 ⟨i, by omega, by omega, n_38⟩)
  exact lp 256 0 (by omega) (fun s hs => absurd hs (Nat.not_lt_zero s))
set_option maxRecDepth 20000 in
theorem x_cCan0 {d n s : Nat} {h : Nat → aE} {k q : Nat} {tp : Int32}  (hk : k + 3 < n) (F_h_k : h k = .inr (0, [.ref (k + 1), .ref (k + 2), .ref (k + 3), .int tp, .int 0]))  {Ψ : Option Value → aH → Prop} (kk : Ψ (some (.int 0)) (n, s, h)) : WO (mM (d + 1)) 4 [.ref k, .ref q] (n, s, h) Ψ := by
  refine WO.of (Nat.le_of_ble_eq_true rfl) ?_
  have FR_h : Fr h h (fun j => False) := Fr.rf
  show WX (lk tX0_canTell) (mM d) Ψ 0 [(0, .ref k), (1, .ref q)] [] (n, s, h)
  refine WX.s1 rfl rfl ?_
  refine WX.get1 (fs := [.ref (k + 1), .ref (k + 2), .ref (k + 3), .int tp, .int 0]) rfl (by omega) (F_h_k) rfl ?_
  refine WX.if_ rfl (fun c_4 => absurd c_4 (by decide)) (fun c_4 => ?_)
  clear c_4
  refine WX.s1 rfl rfl ?_
  exact WX.ret3 rfl (by decide) kk
set_option maxRecDepth 20000 in
theorem x_cstB {d n s : Nat} {h : Nat → aE} {k q f e N : Nat} {L : Nat → Nat} {lA yA : Nat → Int32} {tp th : Int32} {ls : List Nat}  (hk : k + 3 < n) (hq : q < n) (hL : ∀ s, s < 256 → lA s = nI (L s) ∧ L s ≤ 11) (hy : ∀ i, i < ls.length → ls.getD i 0 < 256 ∧ yA i = sb_b (ls.getD i 0)) (hfe : f ≤ e) (hel : e ≤ ls.length) (hlN : ls.length ≤ N) (hN : N ≤ 8000) (F_h_k : h k = .inr (0, [.ref (k + 1), .ref (k + 2), .ref (k + 3), .int tp, .int th])) (F_h__k_1_ : h (k + 1) = .inl (1, 256, .inl lA)) (F_h_q : h q = .inl (0, N, .inl yA))  {Ψ : Option Value → aH → Prop} (kk : Ψ (some (.int (nI (sumN (fun i => L (ls.getD (f + i) 0)) (e - f) / 8 + 1)))) (n, s, h)) : WO (mM (d + 1)) 5 [.ref k, .ref q, .int (nI f), .int (nI e)] (n, s, h) Ψ := by
  refine WO.of (Nat.le_of_ble_eq_true rfl) ?_
  have FR_h : Fr h h (fun j => False) := Fr.rf
  show WX (lk tX0_streamBytes) (mM d) Ψ 0 [(0, .ref k), (1, .ref q), (2, .int (nI f)), (3, .int (nI e))] [] (n, s, h)
  refine WX.s1 rfl rfl ?_
  refine WX.s1 (L' := [(0, .ref k), (1, .ref q), (2, .int (nI f)), (3, .int (nI e)), (4, .int 0)]) rfl rfl ?_
  refine WX.s1 rfl rfl ?_
  refine WX.s1 (L' := [(0, .ref k), (1, .ref q), (2, .int (nI f)), (3, .int (nI e)), (4, .int 0), (5, .int (nI f))]) rfl rfl ?_
  have lp : ∀ (t i : Nat), f + i + t = e → (sumN (fun i => L (ls.getD (f + i) 0)) i) ≤ 11 * i → WX (lk tX0_streamBytes) (mM d) Ψ 6 [(0, .ref k), (1, .ref q), (2, .int (nI f)), (3, .int (nI e)), (4, .int (nI (sumN (fun i => L (ls.getD (f + i) 0)) i))), (5, .int (nI (f + i)))] [] (n, s, h) := by
    intro t
    induction t with
    | zero =>
      intro i hi hb
      obtain rfl : i = e - f := by omega
      refine WX.s1 rfl rfl ?_
      refine WX.s1 rfl rfl ?_
      refine WX.icmp rfl (fun c_9 => ?_) (fun c_9 => absurd ((nI_leI (a := e) (b := f + (e - f)) (by omega) (by omega)).mpr (by omega)) c_9)
      clear c_9
      refine WX.s1 rfl rfl ?_
      refine WX.s1 rfl rfl ?_
      refine WX.div rfl (by decide) ?_
      rw [show nI (sumN (fun i => L (ls.getD (f + i) 0)) (e - f)) / 8 = nI ((sumN (fun i => L (ls.getD (f + i) 0)) (e - f)) / 8) from pk_div (by omega) (by decide) (by decide)]
      refine WX.s1 rfl rfl ?_
      refine WX.s1 (S' := [.int ((nI ((sumN (fun i => L (ls.getD (f + i) 0)) (e - f)) / 8)) + 1)]) rfl rfl ?_
      rw [show ((nI ((sumN (fun i => L (ls.getD (f + i) 0)) (e - f)) / 8)) + 1) = nI ((sumN (fun i => L (ls.getD (f + i) 0)) (e - f)) / 8 + 1) from nI_add ((sumN (fun i => L (ls.getD (f + i) 0)) (e - f)) / 8) 1]
      exact WX.ret1 rfl kk
    | succ t ih =>
      intro i hi hb
      obtain ⟨y1, y2⟩ := hy (f + i) (by omega)
      obtain ⟨l1, l2⟩ := hL _ y1
      have hss : (sumN (fun i => L (ls.getD (f + i) 0)) (i + 1)) = (sumN (fun i => L (ls.getD (f + i) 0)) i) + L (ls.getD (f + i) 0) := rfl
      refine WX.s1 rfl rfl ?_
      refine WX.s1 rfl rfl ?_
      refine WX.icmp rfl (fun c_9 => absurd c_9 (fun zz_ => absurd ((nI_leI (a := e) (b := f + i) (by omega) (by omega)).mp zz_) (Nat.not_le.mpr (by omega)))) (fun c_9 => ?_)
      clear c_9
      refine WX.s1 rfl rfl ?_
      refine WX.s1 rfl rfl ?_
      refine WX.get1 (fs := [.ref (k + 1), .ref (k + 2), .ref (k + 3), .int tp, .int th]) rfl (by omega) (F_h_k) rfl ?_
      refine WX.s1 rfl rfl ?_
      refine WX.s1 rfl rfl ?_
      refine WX.bald1 rfl (by omega) (F_h_q) (vp_in_nI (N := N) (by omega) (by omega)) ?_
      rw [nI_clamp (by omega), y2]
      refine WX.s1 rfl rfl ?_
      refine WX.s1 (S' := [.int ((sb_b (ls.getD (f + i) 0)) &&& 255), .ref (k + 1), .int (nI (sumN (fun i => L (ls.getD (f + i) 0)) i))]) rfl rfl ?_
      rw [(sb_byte _ y1).1]
      refine WX.iald1 rfl (Or.inl (by omega)) (F_h__k_1_) (vp_in_nI (N := 256) (by omega) (by decide)) ?_
      rw [nI_clamp (by omega), l1]
      refine WX.s1 (S' := [.int ((nI (sumN (fun i => L (ls.getD (f + i) 0)) i)) + (nI (L (ls.getD (f + i) 0))))]) rfl rfl ?_
      rw [show ((nI (sumN (fun i => L (ls.getD (f + i) 0)) i)) + (nI (L (ls.getD (f + i) 0)))) = nI (sumN (fun i => L (ls.getD (f + i) 0)) i + (L (ls.getD (f + i) 0))) from nI_add (sumN (fun i => L (ls.getD (f + i) 0)) i) (L (ls.getD (f + i) 0))]
      refine WX.s1 (L' := [(0, .ref k), (1, .ref q), (2, .int (nI f)), (3, .int (nI e)), (4, .int (nI (sumN (fun i => L (ls.getD (f + i) 0)) i + (L (ls.getD (f + i) 0))))), (5, .int (nI (f + i)))]) rfl rfl ?_
      rw [← hss]
      refine WX.s1 (L' := [(0, .ref k), (1, .ref q), (2, .int (nI f)), (3, .int (nI e)), (4, .int (nI (sumN (fun i => L (ls.getD (f + i) 0)) (i + 1)))), (5, .int ((nI (f + i)) + 1))]) rfl rfl ?_
      rw [show ((nI (f + i)) + 1) = nI (f + i + 1) from nI_add (f + i) 1]
      refine WX.s1 rfl rfl ?_
      exact ih (i + 1) (by omega) (by omega)
  exact lp (e - f) 0 (by omega) (Nat.le_refl _)
set_option maxRecDepth 20000 in
theorem x_cput {d n s : Nat} {h : Nat → aE} {k q f e N r RN t : Nat} {L : Nat → Nat} {lA cA yA : Nat → Int32} {tp th : Int32} {ls : List Nat} {bb : Option (List Nat)}  (hk : k + 3 < n) (hq : q < n) (hr : r + 1 < k) (hrq : r + 1 < q) (hRN : RN < 2 ^ 31) (hD : CoD L t lA cA) (hy : ∀ i, i < ls.length → ls.getD i 0 < 256 ∧ yA i = sb_b (ls.getD i 0)) (hlz : ∀ i, i < ls.length → L (ls.getD i 0) ≠ 0) (hfe : f ≤ e) (hel : e ≤ ls.length) (hlN : ls.length ≤ N) (hN : N ≤ 8000) (F_h_k : h k = .inr (0, [.ref (k + 1), .ref (k + 2), .ref (k + 3), .int tp, .int th])) (F_h__k_1_ : h (k + 1) = .inl (1, 256, .inl lA)) (F_h__k_2_ : h (k + 2) = .inl (1, 256, .inl cA)) (F_h_q : h q = .inl (0, N, .inl yA)) (P_h_row : RowIs h r RN bb 0 0) {Ψ : Option Value → aH → Prop} (kk : ∀ h', Fr h h' (fun j => j = r ∨ j = r + 1) → RowIs h' r RN (bputs RN bb (sY L t ls f (e - f))) 0 0 → Ψ none (n, s, h')) : WO (mM (d + 3)) 6 [.ref k, .ref r, .ref q, .int (nI f), .int (nI e)] (n, s, h) Ψ := by
  refine WO.of (Nat.le_of_ble_eq_true rfl) ?_
  have FR_h : Fr h h (fun j => j = r ∨ j = r + 1) := Fr.rf
  obtain ⟨hL, hc, hok⟩ := id hD
  have ht2 := hok.2.1
  show WX (lk tX0_putStream) (mM (d + 2)) Ψ 0 [(0, .ref k), (1, .ref r), (2, .ref q), (3, .int (nI f)), (4, .int (nI e))] [] (n, s, h)
  refine WX.s1 rfl rfl ?_
  refine WX.s1 rfl rfl ?_
  refine WX.s1 (S' := [.int ((nI e) - 1)]) rfl rfl ?_
  refine WX.s1 (L' := [(0, .ref k), (1, .ref r), (2, .ref q), (3, .int (nI f)), (4, .int (nI e)), (5, .int ((nI e) - 1))]) rfl rfl ?_
  have hW0 := RowW.zero P_h_row
  have lp : ∀ (i : Nat) (b : Nat × Nat) (hM : Nat → aE), f + i ≤ e → Fr h hM (fun j => j = r ∨ j = r + 1) → hM k = .inr (0, [.ref (k + 1), .ref (k + 2), .ref (k + 3), .int tp, .int th]) → hM (k + 1) = .inl (1, 256, .inl lA) → hM (k + 2) = .inl (1, 256, .inl cA) → hM q = .inl (0, N, .inl yA) → RowW hM r RN bb b.1 b.2 → sB L t ls f i b = sB L t ls f (e - f) (0, 0) → WX (lk tX0_putStream) (mM (d + 2)) Ψ 6 [(0, .ref k), (1, .ref r), (2, .ref q), (3, .int (nI f)), (4, .int (nI e)), (5, .int (qI (f + i)))] [] (n, s, hM) := by
    clear F_h_k F_h__k_1_ F_h__k_2_ F_h_q P_h_row FR_h hW0
    intro i
    induction i with
    | zero =>
      intro b hM hi FR_hM F_hM_k F_hM__k_1_ F_hM__k_2_ F_hM_q P_hM_row hT
      rw [Nat.add_zero]
      have hbT : b = sB L t ls f (e - f) (0, 0) := hT
      rw [hbT] at P_hM_row
      refine WX.s1 rfl rfl ?_
      refine WX.s1 rfl rfl ?_
      refine WX.icmp rfl (fun c_9 => ?_) (fun c_9 => absurd ((qI_ltN2 (by omega) (by omega)).mpr (Nat.le_refl _)) c_9)
      refine WX.s1 rfl rfl ?_
      refine WX.callC (vs := [.ref r]) rfl rfl rfl (Nat.le_of_ble_eq_true rfl) (P_hM_row.2.rcv (by omega)) ?_
      refine w_endW (by omega) hRN P_hM_row (fun h47 fr47 P_h47_row => ?_)
      have F_h47_k : h47 k = .inr (0, [.ref (k + 1), .ref (k + 2), .ref (k + 3), .int tp, .int th]) := (fr47 _ (by omega)).trans F_hM_k
      have F_h47__k_1_ : h47 (k + 1) = .inl (1, 256, .inl lA) := (fr47 _ (by omega)).trans F_hM__k_1_
      have F_h47__k_2_ : h47 (k + 2) = .inl (1, 256, .inl cA) := (fr47 _ (by omega)).trans F_hM__k_2_
      have F_h47_q : h47 q = .inl (0, N, .inl yA) := (fr47 _ (by omega)).trans F_hM_q
      have FR_h47 : Fr h h47 (fun j => j = r ∨ j = r + 1) := FR_hM.zsub fr47 (fun j hj => by first | exact hj | exact Or.inl hj | exact Or.inr hj | omega)
      show WX _ _ _ 50 [(0, .ref k), (1, .ref r), (2, .ref q), (3, .int (nI f)), (4, .int (nI e)), (5, .int (qI f))] [] (n, s, h47)
      exact WX.ret0 rfl (kk h47 FR_h47 P_h47_row)
    | succ i ih =>
      intro b hM hi FR_hM F_hM_k F_hM__k_1_ F_hM__k_2_ F_hM_q P_hM_row hT
      rw [show f + (i + 1) = (f + i) + 1 from rfl, qIs]
      obtain ⟨y1, y2⟩ := hy (f + i) (by omega)
      have hz := hlz (f + i) (by omega)
      have l1 := hL _ y1
      have c1 := hc _ y1 hz
      have l2 := hok.2.2.1 _ y1
      have c2 := (cd_le2 hok y1 hz).1
      refine WX.s1 rfl rfl ?_
      refine WX.s1 rfl rfl ?_
      refine WX.icmp rfl (fun c_9 => absurd c_9 (fun zz_ => absurd ((nI_ltI (a := f + i) (b := f) (by omega) (by omega)).mp zz_) (Nat.not_lt.mpr (by omega)))) (fun c_9 => ?_)
      clear c_9
      refine WX.s1 rfl rfl ?_
      refine WX.s1 rfl rfl ?_
      refine WX.bald1 rfl (by omega) (F_hM_q) (vp_in_nI (N := N) (by omega) (by omega)) ?_
      rw [nI_clamp (by omega), y2]
      refine WX.s1 rfl rfl ?_
      refine WX.s1 (S' := [.int ((sb_b (ls.getD (f + i) 0)) &&& 255)]) rfl rfl ?_
      rw [(sb_byte _ y1).1]
      refine WX.s1 (L' := [(0, .ref k), (1, .ref r), (2, .ref q), (3, .int (nI f)), (4, .int (nI e)), (5, .int (nI (f + i))), (6, .int (nI (ls.getD (f + i) 0)))]) rfl rfl ?_
      refine WX.s1 rfl rfl ?_
      refine WX.s1 rfl rfl ?_
      refine WX.get1 (fs := [.ref (k + 1), .ref (k + 2), .ref (k + 3), .int tp, .int th]) rfl (by omega) (F_hM_k) rfl ?_
      refine WX.s1 rfl rfl ?_
      refine WX.iald1 rfl (Or.inl (by omega)) (F_hM__k_2_) (vp_in_nI (N := 256) (by omega) (by decide)) ?_
      rw [nI_clamp (by omega), c1]
      refine WX.s1 rfl rfl ?_
      refine WX.get1 (fs := [.ref (k + 1), .ref (k + 2), .ref (k + 3), .int tp, .int th]) rfl (by omega) (F_hM_k) rfl ?_
      refine WX.s1 rfl rfl ?_
      refine WX.iald1 rfl (Or.inl (by omega)) (F_hM__k_1_) (vp_in_nI (N := 256) (by omega) (by decide)) ?_
      rw [nI_clamp (by omega), l1]
      refine WX.callC (vs := [.ref r, .int (nI (cdK L t (ls.getD (f + i) 0))), .int (nI (L (ls.getD (f + i) 0)))]) rfl rfl rfl (Nat.le_of_ble_eq_true rfl) (P_hM_row.2.rcv (by omega)) ?_
      refine w_addW (by omega) P_hM_row hRN (by omega) (by omega) (fun h37 fr37 P_h37_row => ?_)
      have F_h37_k : h37 k = .inr (0, [.ref (k + 1), .ref (k + 2), .ref (k + 3), .int tp, .int th]) := (fr37 _ (by omega)).trans F_hM_k
      have F_h37__k_1_ : h37 (k + 1) = .inl (1, 256, .inl lA) := (fr37 _ (by omega)).trans F_hM__k_1_
      have F_h37__k_2_ : h37 (k + 2) = .inl (1, 256, .inl cA) := (fr37 _ (by omega)).trans F_hM__k_2_
      have F_h37_q : h37 q = .inl (0, N, .inl yA) := (fr37 _ (by omega)).trans F_hM_q
      have FR_h37 : Fr h h37 (fun j => j = r ∨ j = r + 1) := FR_hM.zsub fr37 (fun j hj => by first | exact hj | exact Or.inl hj | exact Or.inr hj | omega)
      show WX _ _ _ 40 [(0, .ref k), (1, .ref r), (2, .ref q), (3, .int (nI f)), (4, .int (nI e)), (5, .int (nI (f + i))), (6, .int (nI (ls.getD (f + i) 0)))] [] (n, s, h37)
      refine WX.s1 (L' := [(0, .ref k), (1, .ref r), (2, .ref q), (3, .int (nI f)), (4, .int (nI e)), (5, .int ((nI (f + i)) + (-1))), (6, .int (nI (ls.getD (f + i) 0)))]) rfl rfl ?_
      rw [show (nI (f + i)) + (-1) = qI (f + i) from qI_dec _]
      refine WX.keep (y := 6) [0, 1, 2, 3, 4, 5] (show ([0, 1, 2, 3, 4, 5, 6] : List Nat).Nodup by decide) rfl ?_
      refine WX.s1 rfl rfl ?_
      exact ih (addB b (cdK L t (ls.getD (f + i) 0)) (L (ls.getD (f + i) 0))) h37 (by omega) FR_h37 F_h37_k F_h37__k_1_ F_h37__k_2_ F_h37_q P_h37_row hT
  rw [show nI e - 1 = qI (f + (e - f)) by rw [show f + (e - f) = e by omega]; exact nI_m1q e]
  exact lp (e - f) (0, 0) h (by omega) FR_h F_h_k F_h__k_1_ F_h__k_2_ F_h_q hW0 rfl
