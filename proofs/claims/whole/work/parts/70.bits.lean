/-! bits: Row.addBits against the reference's put (the first rows are the kit's, pasted from laws/BITS) -/
theorem wb_tb (n : Nat) : (lN n).toBitVec = BitVec.ofNat 64 n := rfl
theorem wb_inj {a b : Int64} (h : a.toBitVec = b.toBitVec) : a = b := Int64.toBitVec_inj.mp h
theorem wb_tn {n : Nat} (h : n < 2 ^ 64) : (lN n).toBitVec.toNat = n := by rw [wb_tb, BitVec.toNat_ofNat, Nat.mod_eq_of_lt h]
theorem wb_of (x : Int64) : ∃ n, n < 2 ^ 64 ∧ x = lN n := ⟨x.toBitVec.toNat, x.toBitVec.isLt, wb_inj (by rw [wb_tb]; simp)⟩
theorem wb_of32 (x : Int32) : ∃ n, n < 2 ^ 32 ∧ x = nI n := ⟨x.toBitVec.toNat, x.toBitVec.isLt, Int32.toBitVec_inj.mp (by show _ = BitVec.ofNat 32 _; simp)⟩
theorem wb_c : ∀ k, k < 64 → ((nI k).toInt64 &&& 63) = lN k := by decide +kernel
theorem wb_cu : ∀ k, k < 64 → ((nI k).toInt64.toUInt64 &&& Int64.toUInt64 63) = UInt64.ofNat k := by decide +kernel
theorem wb_sm : ∀ k, k < 64 → (BitVec.ofNat 64 k).smod 64 = BitVec.ofNat 64 k := by decide +kernel
theorem wb_pw {a b : Nat} (h : a ≤ b) : 2 ^ b = 2 ^ a * 2 ^ (b - a) := by rw [← Nat.pow_add]; congr 1; omega
theorem wb_lt2 {a b : Nat} (h : a < b) : 2 ^ a < 2 ^ b := Nat.pow_lt_pow_right (by decide) h
theorem wb_mod (n : Nat) : lN n = lN (n % 2 ^ 64) := wb_inj (by rw [wb_tb, wb_tb]; apply BitVec.eq_of_toNat_eq; rw [BitVec.toNat_ofNat, BitVec.toNat_ofNat, Nat.mod_mod])
theorem wb_shr {n k : Nat} (hn : n < 2 ^ 64) (hk : k < 64) : ((lN n).toUInt64 >>> ((nI k).toInt64.toUInt64 &&& Int64.toUInt64 63)).toInt64 = lN (n / 2 ^ k) := by
  rw [wb_cu k hk]
  apply wb_inj
  apply BitVec.eq_of_toNat_eq
  show ((lN n).toUInt64 >>> UInt64.ofNat k).toNat = (BitVec.ofNat 64 _).toNat
  have h1 : (UInt64.ofNat k).toNat = k := by
    show (BitVec.ofNat 64 k).toNat = k
    rw [BitVec.toNat_ofNat, Nat.mod_eq_of_lt (by omega)]
  have h2 : (lN n).toUInt64.toNat = n := wb_tn hn
  rw [UInt64.toNat_shiftRight, h1, h2, Nat.mod_eq_of_lt hk, Nat.shiftRight_eq_div_pow, BitVec.toNat_ofNat, Nat.mod_eq_of_lt (Nat.lt_of_le_of_lt (Nat.div_le_self _ _) hn)]
theorem wb_shl (n : Nat) {k : Nat} (hk : k < 64) : lN n <<< ((nI k).toInt64 &&& 63) = lN (n * 2 ^ k) := by
  rw [wb_c k hk]
  apply wb_inj
  rw [Int64.toBitVec_shiftLeft, wb_tb, wb_tb, wb_tb, wb_sm k hk]
  apply BitVec.eq_of_toNat_eq
  rw [BitVec.shiftLeft_eq', BitVec.toNat_shiftLeft, BitVec.toNat_ofNat, BitVec.toNat_ofNat, BitVec.toNat_ofNat, Nat.mod_eq_of_lt (show k < 2 ^ 64 by omega), Nat.shiftLeft_eq, Nat.mul_mod, Nat.mod_mod, ← Nat.mul_mod]
theorem wb_and {a b : Nat} (ha : a < 2 ^ 64) (hb : b < 2 ^ 64) : lN a &&& lN b = lN (a &&& b) := by
  apply wb_inj
  rw [Int64.toBitVec_and, wb_tb, wb_tb, wb_tb]
  apply BitVec.eq_of_toNat_eq
  rw [BitVec.toNat_and, BitVec.toNat_ofNat, BitVec.toNat_ofNat, BitVec.toNat_ofNat, Nat.mod_eq_of_lt ha, Nat.mod_eq_of_lt hb, Nat.mod_eq_of_lt (Nat.and_lt_two_pow _ hb)]
theorem wb_or {a b : Nat} (ha : a < 2 ^ 64) (hb : b < 2 ^ 64) : lN a ||| lN b = lN (a ||| b) := by
  apply wb_inj
  rw [Int64.toBitVec_or, wb_tb, wb_tb, wb_tb]
  apply BitVec.eq_of_toNat_eq
  rw [BitVec.toNat_or, BitVec.toNat_ofNat, BitVec.toNat_ofNat, BitVec.toNat_ofNat, Nat.mod_eq_of_lt ha, Nat.mod_eq_of_lt hb, Nat.mod_eq_of_lt (Nat.or_lt_two_pow ha hb)]
theorem wb_mask {n k : Nat} (hn : n < 2 ^ 64) (hk : k < 64) : lN n &&& lN (2 ^ k - 1) = lN (n % 2 ^ k) := by
  rw [wb_and hn (by have := wb_lt2 hk; omega), Nat.and_two_pow_sub_one_eq_mod]
theorem wb_a1 {n : Nat} (hn : n < 2 ^ 64) : lN n &&& 1 = lN (n % 2) := wb_mask (k := 1) hn (by decide)
theorem wb_bit {n k : Nat} (hn : n < 2 ^ 64) (hk : k < 64) : ((lN n).toUInt64 >>> ((nI k).toInt64.toUInt64 &&& Int64.toUInt64 63)).toInt64 &&& 1 = lN (n / 2 ^ k % 2) := by
  rw [wb_shr hn hk, wb_a1 (Nat.lt_of_le_of_lt (Nat.div_le_self _ _) hn)]
def leBy (w m : Nat) : List Nat := (List.range m).map (fun i => w / 256 ^ i % 256)
theorem leBy_succ (w m : Nat) : leBy w (m + 1) = leBy w m ++ [w / 256 ^ m % 256] := by simp [leBy, List.range_succ]
theorem leBy_len (w m : Nat) : (leBy w m).length = m := by simp [leBy]
theorem bputs_app (N : Nat) (b : Option (List Nat)) (l l2 : List Nat) : bputs N b (l ++ l2) = bputs N (bputs N b l) l2 := List.foldl_append
theorem by_lo {w x c i : Nat} (h : 8 * (i + 1) ≤ c) : (w + x * 2 ^ c) / 256 ^ i % 256 = w / 256 ^ i % 256 := by
  have e : 2 ^ c = 256 ^ i * (256 * 2 ^ (c - 8 * (i + 1))) := by
    rw [show (256 : Nat) = 2 ^ 8 from rfl, ← Nat.pow_mul, ← Nat.pow_add, ← Nat.pow_add]
    congr 1
    omega
  have e2 : x * 2 ^ c = 256 ^ i * (256 * (x * 2 ^ (c - 8 * (i + 1)))) := by
    rw [e]
    ac_rfl
  rw [e2, Nat.add_mul_div_left _ _ (Nat.pow_pos (by decide)), Nat.add_mul_mod_self_left]
theorem leBy_lo {w x c m : Nat} (h : 8 * m ≤ c) : leBy (w + x * 2 ^ c) m = leBy w m := by
  unfold leBy
  apply List.map_congr_left
  intro i hi
  exact by_lo (by have := List.mem_range.mp hi; omega)
theorem p2_split (c : Nat) : 2 ^ c = 2 ^ (8 * (c / 8)) * 2 ^ (c % 8) := by
  rw [← Nat.pow_add]
  congr 1
  omega
theorem hold_eq (w x c : Nat) : (w + x * 2 ^ c) / 2 ^ (8 * (c / 8)) = w / 2 ^ (8 * (c / 8)) + x * 2 ^ (c % 8) := by
  rw [show x * 2 ^ c = 2 ^ (8 * (c / 8)) * (x * 2 ^ (c % 8)) by rw [p2_split c]; ac_rfl, Nat.add_mul_div_left _ _ (Nat.pow_pos (by decide))]
theorem hold_lt {w c : Nat} (h : w < 2 ^ c) : w / 2 ^ (8 * (c / 8)) < 2 ^ (c % 8) := Nat.div_lt_of_lt_mul (by rw [← p2_split]; exact h)
theorem w_lt {w x c n : Nat} (h : w < 2 ^ c) (hx : x < 2 ^ n) : w + x * 2 ^ c < 2 ^ (c + n) := by
  have a : (x + 1) * 2 ^ c ≤ 2 ^ n * 2 ^ c := Nat.mul_le_mul_right _ hx
  rw [Nat.add_mul, Nat.one_mul] at a
  rw [Nat.pow_add, Nat.mul_comm (2 ^ c)]
  omega
theorem or_add {p r x : Nat} (hp : p < 2 ^ r) : p ||| x * 2 ^ r = p + x * 2 ^ r := by
  rw [Nat.or_comm, Nat.mul_comm, ← Nat.two_pow_add_eq_or_of_lt hp]
  omega
theorem d256 (w m : Nat) : w / 2 ^ (8 * m) % 256 = w / 256 ^ m % 256 := by rw [Nat.pow_mul]
theorem d256s (w m : Nat) : w / 2 ^ (8 * m) / 2 ^ 8 = w / 2 ^ (8 * (m + 1)) := by
  rw [Nat.div_div_eq_div_mul, ← Nat.pow_add, show 8 * (m + 1) = 8 * m + 8 from rfl]
def RowW (h : Nat → aE) (k N : Nat) (b : Option (List Nat)) (c w : Nat) : Prop := w < 2 ^ c ∧ RowIs h k N (bputs N b (leBy w (c / 8))) (lN (w / 2 ^ (8 * (c / 8)))) (nI (c % 8))
theorem RowW.zfr {h h1 : Nat → aE} {A : Nat → Prop} {k N c w : Nat} {b : Option (List Nat)} (r : RowW h k N b c w) (f : Fr h h1 A) (h0 : ¬ A k) (h2 : ¬ A (k + 1)) : RowW h1 k N b c w := ⟨r.1, r.2.zfr f h0 h2⟩
theorem RowW.zero {h : Nat → aE} {k N : Nat} {b : Option (List Nat)} (r : RowIs h k N b 0 0) : RowW h k N b 0 0 := ⟨by decide, r⟩
theorem RowW.done {h : Nat → aE} {k N m w : Nat} {b : Option (List Nat)} (r : RowW h k N b (8 * m) w) : RowIs h k N (bputs N b (leBy w m)) 0 0 := by
  have e : 8 * m / 8 = m := by omega
  have e2 : 8 * m % 8 = 0 := by omega
  have h2 := r.2
  rw [e, e2, Nat.div_eq_of_lt r.1] at h2
  exact h2
theorem byt_nI (m : Nat) : byt (nI m) = m % 256 := by
  unfold byt
  show (BitVec.ofNat 32 m).toNat % 256 = _
  rw [BitVec.toNat_ofNat]
  omega
theorem nIsub8 {a : Nat} (h : 8 ≤ a) : nI a - 8 = nI (a - 8) := by
  obtain ⟨b, rfl⟩ : ∃ b, a = b + 8 := ⟨a - 8, by omega⟩
  rw [← nI_add b 8, show b + 8 - 8 = b by omega]
  exact Int32.add_sub_cancel _ _
set_option maxRecDepth 20000 in
theorem w_addW {d n s : Nat} {h : Nat → aE} {k N c w : Nat} {b : Option (List Nat)} {x m : Nat} (hn : k + 1 < n) (r : RowW h k N b c w) (hN : N < 2 ^ 31) (hx : x < 2 ^ 31) (hm : m ≤ 31) {Ψ : Option Value → aH → Prop} (kk : ∀ h', Fr h h' (fun j => j = k ∨ j = k + 1) → RowW h' k N b (c + m) (w + x % 2 ^ m * 2 ^ c) → Ψ none (n, s, h')) : WO (mM (d + 1)) 90 [.ref k, .int (nI x), .int (nI m)] (n, s, h) Ψ := by
  refine WO.of (Nat.le_of_ble_eq_true rfl) ?_
  have FR_h : Fr h h (fun j => j = k ∨ j = k + 1) := Fr.rf
  obtain ⟨hw, g, u, sp, ⟨F_h_k, F_h__k_1_⟩, hR⟩ := r
  have hX : x % 2 ^ m < 2 ^ m := Nat.mod_lt _ (Nat.pow_pos (by decide))
  have hX1 : x % 2 ^ m < 2 ^ 31 := Nat.lt_of_le_of_lt (Nat.mod_le _ _) hx
  have hW := w_lt (c := c) hw hX
  generalize eW : w + x % 2 ^ m * 2 ^ c = W at hW kk
  generalize eC : c + m = C at hW kk
  have hp := hold_lt hw
  have hr : c % 8 < 8 := Nat.mod_lt _ (by decide)
  have h7 : 2 ^ (c % 8) ≤ 2 ^ 7 := Nat.pow_le_pow_right (by decide) (by omega)
  have hWq : W / 2 ^ (8 * (c / 8)) < 2 ^ 39 := by
    rw [← eW, hold_eq]
    have : x % 2 ^ m * 2 ^ (c % 8) ≤ 2 ^ 31 * 2 ^ 7 := Nat.mul_le_mul (Nat.le_of_lt hX1) h7
    omega
  have lp : ∀ (t q : Nat) (hL : Nat → aE) (gL : Nat → Int32) (uL : Nat) (sL : Int32), c / 8 ≤ q → q + t = C / 8 → Fr h hL (fun j => j = k ∨ j = k + 1) → hL k = .inr (7, [.ref (k + 1), .int (nI uL), .int sL, .long (lN (W / 2 ^ (8 * q))), .int (nI (C - 8 * q))]) → hL (k + 1) = .inl (0, N, .inl gL) → RowR N gL uL sL (bputs N b (leBy W q)) → WX (lk tX7_addBits) (mM d) Ψ 32 [(0, .ref k), (1, .int (nI x)), (2, .int (nI m))] [] (n, s, hL) := by
    clear F_h_k F_h__k_1_ hR FR_h
    intro t
    induction t with
    | zero =>
      intro q hL gL uL sL hq ht FR_hL F_hL_k F_hL__k_1_ hR
      refine WX.s1 rfl rfl ?_
      refine WX.get1 (fs := [.ref (k + 1), .int (nI uL), .int sL, .long (lN (W / 2 ^ (8 * q))), .int (nI (C - 8 * q))]) rfl (by omega) (F_hL_k) rfl ?_
      refine WX.s1 rfl rfl ?_
      refine WX.icmp rfl (fun c_38 => ?_) (fun c_38 => absurd (nI_lt (b := 8) (by omega) (by decide)) c_38)
      obtain rfl : q = C / 8 := by omega
      refine WX.ret0 rfl (kk hL FR_hL ⟨hW, gL, uL, sL, ⟨?_, F_hL__k_1_⟩, hR⟩)
      rw [F_hL_k, show C - 8 * (C / 8) = C % 8 by omega]
    | succ t ih =>
      intro q hL gL uL sL hq ht FR_hL F_hL_k F_hL__k_1_ hR
      have hm1 : W / 2 ^ (8 * q) < 2 ^ 39 := Nat.lt_of_le_of_lt (Nat.div_le_div_left (Nat.pow_le_pow_right (by decide) (by omega)) (Nat.pow_pos (by decide))) hWq
      have hC39 : C - 8 * q < 2 ^ 31 := by omega
      refine WX.s1 rfl rfl ?_
      refine WX.get1 (fs := [.ref (k + 1), .int (nI uL), .int sL, .long (lN (W / 2 ^ (8 * q))), .int (nI (C - 8 * q))]) rfl (by omega) (F_hL_k) rfl ?_
      refine WX.s1 rfl rfl ?_
      refine WX.icmp rfl (fun c_38 => absurd c_38 (nI_nlt (a := C - 8 * q) (b := 8) (by omega) hC39)) (fun c_38 => ?_)
      refine WX.s1 rfl rfl ?_
      refine WX.get1 (fs := [.ref (k + 1), .int (nI uL), .int sL, .long (lN (W / 2 ^ (8 * q))), .int (nI (C - 8 * q))]) rfl (by omega) (F_hL_k) rfl ?_
      refine WX.s1 rfl rfl ?_
      refine WX.get1 (fs := [.ref (k + 1), .int (nI uL), .int sL, .long (lN (W / 2 ^ (8 * q))), .int (nI (C - 8 * q))]) rfl (by omega) (F_hL_k) rfl ?_
      refine WX.len1 rfl (Or.inl ⟨by omega, by decide⟩) (F_hL__k_1_) ?_
      refine WX.icmp rfl (fun c_50 => ?_) (fun c_50 => ?_)
      · skip
        have hu : N ≤ uL := (nI_leI hN (by have := hR.1; omega)).mp c_50
        refine WX.s1 rfl rfl ?_
        refine WX.s1 rfl rfl ?_
        refine WX.put1 (fs := [.ref (k + 1), .int (nI uL), .int sL, .long (lN (W / 2 ^ (8 * q))), .int (nI (C - 8 * q))]) (fs' := [.ref (k + 1), .int (nI uL), .int 1, .long (lN (W / 2 ^ (8 * q))), .int (nI (C - 8 * q))]) rfl (by omega) (F_hL_k) (Nat.le_of_ble_eq_true rfl) (rfl) rfl (fun h83 e_h83 => ?_)
        have F_h83_k : h83 k = .inr (7, [.ref (k + 1), .int (nI uL), .int 1, .long (lN (W / 2 ^ (8 * q))), .int (nI (C - 8 * q))]) := by rw [e_h83]; exact va_up_eq
        have F_h83__k_1_ : h83 (k + 1) = .inl (0, N, .inl gL) := by rw [e_h83, va_up_neq (nek0 (a := 1) (by decide))]; exact F_hL__k_1_
        have FR_h83 : Fr h h83 (fun j => j = k ∨ j = k + 1) := FR_hL.zup e_h83 (by first | exact rfl | exact Or.inl rfl | exact Or.inr rfl | exact ⟨by decide, by decide⟩ | decide | omega)
        refine WX.s1 rfl rfl ?_
        refine WX.s1 rfl rfl ?_
        refine WX.get1 (fs := [.ref (k + 1), .int (nI uL), .int 1, .long (lN (W / 2 ^ (8 * q))), .int (nI (C - 8 * q))]) rfl (by omega) (F_h83_k) rfl ?_
        refine WX.s1 rfl rfl ?_
        refine WX.s1 rfl rfl ?_
        refine WX.putNL (fs := [.ref (k + 1), .int (nI uL), .int 1, .long (lN (W / 2 ^ (8 * q))), .int (nI (C - 8 * q))]) (fs' := fun f94 => [.ref (k + 1), .int (nI uL), .int 1, .long f94, .int (nI (C - 8 * q))]) rfl (by omega) (F_h83_k) (Nat.le_of_ble_eq_true rfl) (fun _ => rfl) (fun f94 h94 e_f94 e_h94 => ?_)
        try dsimp only at e_f94
        have F_h94_k : h94 k = .inr (7, [.ref (k + 1), .int (nI uL), .int 1, .long f94, .int (nI (C - 8 * q))]) := by rw [e_h94]; exact va_up_eq
        have F_h94__k_1_ : h94 (k + 1) = .inl (0, N, .inl gL) := by rw [e_h94, va_up_neq (nek0 (a := 1) (by decide))]; exact F_h83__k_1_
        have FR_h94 : Fr h h94 (fun j => j = k ∨ j = k + 1) := FR_h83.zup e_h94 (by first | exact rfl | exact Or.inl rfl | exact Or.inr rfl | exact ⟨by decide, by decide⟩ | decide | omega)
        refine WX.s1 rfl rfl ?_
        refine WX.s1 rfl rfl ?_
        refine WX.get1 (fs := [.ref (k + 1), .int (nI uL), .int 1, .long f94, .int (nI (C - 8 * q))]) rfl (by omega) (F_h94_k) rfl ?_
        refine WX.s1 rfl rfl ?_
        refine WX.s1 rfl rfl ?_
        refine WX.put1 (fs := [.ref (k + 1), .int (nI uL), .int 1, .long f94, .int (nI (C - 8 * q))]) (fs' := [.ref (k + 1), .int (nI uL), .int 1, .long f94, .int ((nI (C - 8 * q)) - 8)]) rfl (by omega) (F_h94_k) (Nat.le_of_ble_eq_true rfl) (rfl) rfl (fun h105 e_h105 => ?_)
        have F_h105_k : h105 k = .inr (7, [.ref (k + 1), .int (nI uL), .int 1, .long f94, .int ((nI (C - 8 * q)) - 8)]) := by rw [e_h105]; exact va_up_eq
        have F_h105__k_1_ : h105 (k + 1) = .inl (0, N, .inl gL) := by rw [e_h105, va_up_neq (nek0 (a := 1) (by decide))]; exact F_h94__k_1_
        have FR_h105 : Fr h h105 (fun j => j = k ∨ j = k + 1) := FR_h94.zup e_h105 (by first | exact rfl | exact Or.inl rfl | exact Or.inr rfl | exact ⟨by decide, by decide⟩ | decide | omega)
        refine WX.s1 rfl rfl ?_
        have e94 : f94 = lN (W / 2 ^ (8 * (q + 1))) := by
          rw [e_f94, ← d256s]
          exact wb_shr (k := 8) (by omega) (by decide)
        have e105 : nI (C - 8 * q) - 8 = nI (C - 8 * (q + 1)) := by rw [nIsub8 (by omega), show C - 8 * q - 8 = C - 8 * (q + 1) by omega]
        have hR2 := hR.over (c := W / 256 ^ q % 256) hu
        refine ih (q + 1) h105 gL uL 1 (by omega) (by omega) FR_h105 ?_ F_h105__k_1_ ?_
        · rw [F_h105_k, e94, e105]
        · rw [leBy_succ, bputs_app]
          exact hR2
      · skip
        have hu : uL < N := Nat.lt_of_not_le (fun z => c_50 (nI_le z (by have := hR.1; omega)))
        refine WX.s1 rfl rfl ?_
        refine WX.get1 (fs := [.ref (k + 1), .int (nI uL), .int sL, .long (lN (W / 2 ^ (8 * q))), .int (nI (C - 8 * q))]) rfl (by omega) (F_hL_k) rfl ?_
        refine WX.s1 rfl rfl ?_
        refine WX.get1 (fs := [.ref (k + 1), .int (nI uL), .int sL, .long (lN (W / 2 ^ (8 * q))), .int (nI (C - 8 * q))]) rfl (by omega) (F_hL_k) rfl ?_
        refine WX.s1 rfl rfl ?_
        refine WX.get1 (fs := [.ref (k + 1), .int (nI uL), .int sL, .long (lN (W / 2 ^ (8 * q))), .int (nI (C - 8 * q))]) rfl (by omega) (F_hL_k) rfl ?_
        refine WX.s1 rfl rfl ?_
        refine WX.s1 rfl rfl ?_
        refine WX.bastN rfl (by omega) (F_hL__k_1_) (vp_in_nI (by omega) hN) (fun g67 h67 e_g67 e_h67 => ?_)
        try dsimp only at e_g67
        have F_h67_k : h67 k = .inr (7, [.ref (k + 1), .int (nI uL), .int sL, .long (lN (W / 2 ^ (8 * q))), .int (nI (C - 8 * q))]) := by rw [e_h67, va_up_neq (nek1 (a := 1) (by decide))]; exact F_hL_k
        have F_h67__k_1_ : h67 (k + 1) = .inl (0, N, .inl g67) := by rw [e_h67]; exact va_up_eq
        have FR_h67 : Fr h h67 (fun j => j = k ∨ j = k + 1) := FR_hL.zup e_h67 (by first | exact rfl | exact Or.inl rfl | exact Or.inr rfl | exact ⟨by decide, by decide⟩ | decide | omega)
        refine WX.s1 rfl rfl ?_
        refine WX.s1 rfl rfl ?_
        refine WX.get1 (fs := [.ref (k + 1), .int (nI uL), .int sL, .long (lN (W / 2 ^ (8 * q))), .int (nI (C - 8 * q))]) rfl (by omega) (F_h67_k) rfl ?_
        refine WX.s1 rfl rfl ?_
        refine WX.s1 rfl rfl ?_
        refine WX.put1 (fs := [.ref (k + 1), .int (nI uL), .int sL, .long (lN (W / 2 ^ (8 * q))), .int (nI (C - 8 * q))]) (fs' := [.ref (k + 1), .int ((nI uL) + 1), .int sL, .long (lN (W / 2 ^ (8 * q))), .int (nI (C - 8 * q))]) rfl (by omega) (F_h67_k) (Nat.le_of_ble_eq_true rfl) (rfl) rfl (fun h75 e_h75 => ?_)
        have F_h75_k : h75 k = .inr (7, [.ref (k + 1), .int ((nI uL) + 1), .int sL, .long (lN (W / 2 ^ (8 * q))), .int (nI (C - 8 * q))]) := by rw [e_h75]; exact va_up_eq
        have F_h75__k_1_ : h75 (k + 1) = .inl (0, N, .inl g67) := by rw [e_h75, va_up_neq (nek0 (a := 1) (by decide))]; exact F_h67__k_1_
        have FR_h75 : Fr h h75 (fun j => j = k ∨ j = k + 1) := FR_h67.zup e_h75 (by first | exact rfl | exact Or.inl rfl | exact Or.inr rfl | exact ⟨by decide, by decide⟩ | decide | omega)
        refine WX.s1 rfl rfl ?_
        refine WX.s1 rfl rfl ?_
        refine WX.s1 rfl rfl ?_
        refine WX.get1 (fs := [.ref (k + 1), .int ((nI uL) + 1), .int sL, .long (lN (W / 2 ^ (8 * q))), .int (nI (C - 8 * q))]) rfl (by omega) (F_h75_k) rfl ?_
        refine WX.s1 rfl rfl ?_
        refine WX.s1 rfl rfl ?_
        refine WX.putNL (fs := [.ref (k + 1), .int ((nI uL) + 1), .int sL, .long (lN (W / 2 ^ (8 * q))), .int (nI (C - 8 * q))]) (fs' := fun f94 => [.ref (k + 1), .int ((nI uL) + 1), .int sL, .long f94, .int (nI (C - 8 * q))]) rfl (by omega) (F_h75_k) (Nat.le_of_ble_eq_true rfl) (fun _ => rfl) (fun f94 h94 e_f94 e_h94 => ?_)
        try dsimp only at e_f94
        have F_h94_k : h94 k = .inr (7, [.ref (k + 1), .int ((nI uL) + 1), .int sL, .long f94, .int (nI (C - 8 * q))]) := by rw [e_h94]; exact va_up_eq
        have F_h94__k_1_ : h94 (k + 1) = .inl (0, N, .inl g67) := by rw [e_h94, va_up_neq (nek0 (a := 1) (by decide))]; exact F_h75__k_1_
        have FR_h94 : Fr h h94 (fun j => j = k ∨ j = k + 1) := FR_h75.zup e_h94 (by first | exact rfl | exact Or.inl rfl | exact Or.inr rfl | exact ⟨by decide, by decide⟩ | decide | omega)
        refine WX.s1 rfl rfl ?_
        refine WX.s1 rfl rfl ?_
        refine WX.get1 (fs := [.ref (k + 1), .int ((nI uL) + 1), .int sL, .long f94, .int (nI (C - 8 * q))]) rfl (by omega) (F_h94_k) rfl ?_
        refine WX.s1 rfl rfl ?_
        refine WX.s1 rfl rfl ?_
        refine WX.put1 (fs := [.ref (k + 1), .int ((nI uL) + 1), .int sL, .long f94, .int (nI (C - 8 * q))]) (fs' := [.ref (k + 1), .int ((nI uL) + 1), .int sL, .long f94, .int ((nI (C - 8 * q)) - 8)]) rfl (by omega) (F_h94_k) (Nat.le_of_ble_eq_true rfl) (rfl) rfl (fun h105 e_h105 => ?_)
        have F_h105_k : h105 k = .inr (7, [.ref (k + 1), .int ((nI uL) + 1), .int sL, .long f94, .int ((nI (C - 8 * q)) - 8)]) := by rw [e_h105]; exact va_up_eq
        have F_h105__k_1_ : h105 (k + 1) = .inl (0, N, .inl g67) := by rw [e_h105, va_up_neq (nek0 (a := 1) (by decide))]; exact F_h94__k_1_
        have FR_h105 : Fr h h105 (fun j => j = k ∨ j = k + 1) := FR_h94.zup e_h105 (by first | exact rfl | exact Or.inl rfl | exact Or.inr rfl | exact ⟨by decide, by decide⟩ | decide | omega)
        refine WX.s1 rfl rfl ?_
        have e94 : f94 = lN (W / 2 ^ (8 * (q + 1))) := by
          rw [e_f94, ← d256s]
          exact wb_shr (k := 8) (by omega) (by decide)
        have e105 : nI (C - 8 * q) - 8 = nI (C - 8 * (q + 1)) := by rw [nIsub8 (by omega), show C - 8 * q - 8 = C - 8 * (q + 1) by omega]
        have hR2 := hR.put (v := nI (W / 2 ^ (8 * q))) hu
        rw [byt_nI, d256] at hR2
        refine ih (q + 1) h105 g67 (uL + 1) sL (by omega) (by omega) FR_h105 ?_ F_h105__k_1_ ?_
        · rw [F_h105_k, e94, e105, nI_1]
        · rw [leBy_succ, bputs_app, e_g67, nI_clamp (by omega), lN_i, Int8.toInt8_toInt32]
          exact hR2
  show WX (lk tX7_addBits) (mM d) Ψ 0 [(0, .ref k), (1, .int (nI x)), (2, .int (nI m))] [] (n, s, h)
  refine WX.s1 rfl rfl ?_
  refine WX.s1 rfl rfl ?_
  refine WX.get1 (fs := [.ref (k + 1), .int (nI u), .int sp, .long (lN (w / 2 ^ (8 * (c / 8)))), .int (nI (c % 8))]) rfl (by omega) (F_h_k) rfl ?_
  refine WX.s1 rfl rfl ?_
  refine WX.s1 rfl rfl ?_
  refine WX.s1 rfl rfl ?_
  refine WX.s1 rfl rfl ?_
  refine WX.s1 rfl rfl ?_
  refine WX.s1 rfl rfl ?_
  refine WX.s1 rfl rfl ?_
  refine WX.s1 rfl rfl ?_
  refine WX.s1 rfl rfl ?_
  refine WX.get1 (fs := [.ref (k + 1), .int (nI u), .int sp, .long (lN (w / 2 ^ (8 * (c / 8)))), .int (nI (c % 8))]) rfl (by omega) (F_h_k) rfl ?_
  refine WX.s1 rfl rfl ?_
  refine WX.s1 rfl rfl ?_
  refine WX.putNL (fs := [.ref (k + 1), .int (nI u), .int sp, .long (lN (w / 2 ^ (8 * (c / 8)))), .int (nI (c % 8))]) (fs' := fun f19 => [.ref (k + 1), .int (nI u), .int sp, .long f19, .int (nI (c % 8))]) rfl (by omega) (F_h_k) (Nat.le_of_ble_eq_true rfl) (fun _ => rfl) (fun f19 h19 e_f19 e_h19 => ?_)
  try dsimp only at e_f19
  have F_h19_k : h19 k = .inr (7, [.ref (k + 1), .int (nI u), .int sp, .long f19, .int (nI (c % 8))]) := by rw [e_h19]; exact va_up_eq
  have F_h19__k_1_ : h19 (k + 1) = .inl (0, N, .inl g) := by rw [e_h19, va_up_neq (nek0 (a := 1) (by decide))]; exact F_h__k_1_
  have FR_h19 : Fr h h19 (fun j => j = k ∨ j = k + 1) := FR_h.zup e_h19 (by first | exact rfl | exact Or.inl rfl | exact Or.inr rfl | exact ⟨by decide, by decide⟩ | decide | omega)
  refine WX.s1 rfl rfl ?_
  refine WX.s1 rfl rfl ?_
  refine WX.get1 (fs := [.ref (k + 1), .int (nI u), .int sp, .long f19, .int (nI (c % 8))]) rfl (by omega) (F_h19_k) rfl ?_
  refine WX.s1 rfl rfl ?_
  refine WX.s1 rfl rfl ?_
  refine WX.put1 (fs := [.ref (k + 1), .int (nI u), .int sp, .long f19, .int (nI (c % 8))]) (fs' := [.ref (k + 1), .int (nI u), .int sp, .long f19, .int ((nI (c % 8)) + (nI m))]) rfl (by omega) (F_h19_k) (Nat.le_of_ble_eq_true rfl) (rfl) rfl (fun h29 e_h29 => ?_)
  have F_h29_k : h29 k = .inr (7, [.ref (k + 1), .int (nI u), .int sp, .long f19, .int ((nI (c % 8)) + (nI m))]) := by rw [e_h29]; exact va_up_eq
  have F_h29__k_1_ : h29 (k + 1) = .inl (0, N, .inl g) := by rw [e_h29, va_up_neq (nek0 (a := 1) (by decide))]; exact F_h19__k_1_
  have FR_h29 : Fr h h29 (fun j => j = k ∨ j = k + 1) := FR_h19.zup e_h29 (by first | exact rfl | exact Or.inl rfl | exact Or.inr rfl | exact ⟨by decide, by decide⟩ | decide | omega)
  have e19 : f19 = lN (W / 2 ^ (8 * (c / 8))) := by
    have a1 : (nI x).toInt64 = lN x := nI_l (by omega)
    have a2 : (1 : Int64) <<< ((nI m).toInt64 &&& 63) - 1 = lN (2 ^ m - 1) := by
      have := wb_shl 1 (show m < 64 by omega)
      rw [Nat.one_mul] at this
      show lN 1 <<< ((nI m).toInt64 &&& 63) - lN 1 = _
      rw [this]
      exact lN_sub (Nat.pow_pos (by decide))
    rw [e_f19, a1, a2, wb_mask (by omega) (by omega), wb_shl _ (show c % 8 < 64 by omega), wb_or (by omega) ?_, or_add hp, ← eW, hold_eq]
    have : x % 2 ^ m * 2 ^ (c % 8) ≤ 2 ^ 31 * 2 ^ 7 := Nat.mul_le_mul (Nat.le_of_lt hX1) h7
    omega
  refine lp (C / 8 - c / 8) (c / 8) h29 g u sp (Nat.le_refl _) (by omega) FR_h29 ?_ F_h29__k_1_ ?_
  · rw [F_h29_k, e19, nI_add, show c % 8 + m = C - 8 * (c / 8) by omega]
  · rw [← eW, leBy_lo (by omega)]
    exact hR
theorem nIsubc {r : Nat} (h : r ≤ 8) : (8 : Int32) - nI r = nI (8 - r) := by
  obtain rfl | rfl | rfl | rfl | rfl | rfl | rfl | rfl | rfl : r = 0 ∨ r = 1 ∨ r = 2 ∨ r = 3 ∨ r = 4 ∨ r = 5 ∨ r = 6 ∨ r = 7 ∨ r = 8 := by omega
  all_goals decide
theorem RowW.row {h : Nat → aE} {k N c w : Nat} {b : Option (List Nat)} (r : RowW h k N b c w) : ∃ (u : Nat) (sp : Int32) (ho : Int64), h k = .inr (7, [.ref (k + 1), .int (nI u), .int sp, .long ho, .int (nI (c % 8))]) := by
  obtain ⟨-, g, u, sp, ⟨a, -⟩, -⟩ := r
  exact ⟨u, sp, _, a⟩
set_option maxRecDepth 20000 in
theorem w_endW {d n s : Nat} {h : Nat → aE} {k N c w : Nat} {b : Option (List Nat)}  (hk : k + 1 < n) (hN : N < 2 ^ 31)  (P_h_r : RowW h k N b c w) {Ψ : Option Value → aH → Prop} (kk : ∀ h', Fr h h' (fun j => j = k ∨ j = k + 1) → RowIs h' k N (bputs N b (leBy (w + 2 ^ c) (c / 8 + 1))) 0 0 → Ψ none (n, s, h')) : WO (mM (d + 2)) 92 [.ref k] (n, s, h) Ψ := by
  refine WO.of (Nat.le_of_ble_eq_true rfl) ?_
  obtain ⟨u, sp, ho, F_h_k⟩ := P_h_r.row
  show WX (lk tX7_endStream) (mM (d + 1)) Ψ 0 [(0, .ref k)] [] (n, s, h)
  refine WX.s1 rfl rfl ?_
  refine WX.s1 rfl rfl ?_
  refine WX.s1 rfl rfl ?_
  refine WX.s1 rfl rfl ?_
  refine WX.get1 (fs := [.ref (k + 1), .int (nI u), .int sp, .long ho, .int (nI (c % 8))]) rfl (by omega) (F_h_k) rfl ?_
  refine WX.s1 rfl rfl ?_
  show WX _ _ _ 9 [(0, .ref k)] [.int (8 - nI (c % 8)), .int 1, .ref k] (n, s, h)
  rw [nIsubc (show c % 8 ≤ 8 by omega)]
  refine WX.callC (vs := [.ref k, .int (nI 1), .int (nI (8 - c % 8))]) rfl rfl rfl (Nat.le_of_ble_eq_true rfl) (rcv_ok (by omega) F_h_k) ?_
  refine w_addW hk P_h_r hN (by decide) (by omega) (fun h2 fr2 r2 => ?_)
  show WX _ _ _ 12 [(0, .ref k)] [] (n, s, h2)
  refine WX.ret0 rfl (kk h2 fr2 ?_)
  have e1 : 1 % 2 ^ (8 - c % 8) = 1 := Nat.mod_eq_of_lt (Nat.lt_of_lt_of_le (show 1 < 2 ^ 1 by decide) (Nat.pow_le_pow_right (by decide) (by omega)))
  rw [e1, Nat.one_mul, show c + (8 - c % 8) = 8 * (c / 8 + 1) by omega] at r2
  exact r2.done
set_option maxRecDepth 20000 in
theorem w_closeW {d n s : Nat} {h : Nat → aE} {k N c w : Nat} {b : Option (List Nat)}  (hk : k + 1 < n) (hN : N < 2 ^ 31)  (P_h_r : RowW h k N b c w) {Ψ : Option Value → aH → Prop} (kk : ∀ h', Fr h h' (fun j => j = k ∨ j = k + 1) → RowIs h' k N (bputs N b (leBy w ((c + 7) / 8))) 0 0 → Ψ none (n, s, h')) : WO (mM (d + 2)) 91 [.ref k] (n, s, h) Ψ := by
  refine WO.of (Nat.le_of_ble_eq_true rfl) ?_
  obtain ⟨u, sp, ho, F_h_k⟩ := P_h_r.row
  show WX (lk tX7_closeBits) (mM (d + 1)) Ψ 0 [(0, .ref k)] [] (n, s, h)
  refine WX.s1 rfl rfl ?_
  refine WX.get1 (fs := [.ref (k + 1), .int (nI u), .int sp, .long ho, .int (nI (c % 8))]) rfl (by omega) (F_h_k) rfl ?_
  refine WX.if_ rfl (fun c_4 => ?_) (fun c_4 => ?_)
  · skip
    have c8 : c % 8 = 0 := Nat.le_zero.mp ((nI_leI (by omega) (by decide)).mp (show nI (c % 8) ≤ nI 0 from c_4))
    refine WX.ret0 rfl (kk h Fr.rf ?_)
    have r2 := P_h_r
    rw [show c = 8 * ((c + 7) / 8) by omega] at r2
    exact r2.done
  · skip
    refine WX.s1 rfl rfl ?_
    refine WX.s1 rfl rfl ?_
    refine WX.s1 rfl rfl ?_
    refine WX.s1 rfl rfl ?_
    refine WX.get1 (fs := [.ref (k + 1), .int (nI u), .int sp, .long ho, .int (nI (c % 8))]) rfl (by omega) (F_h_k) rfl ?_
    refine WX.s1 rfl rfl ?_
    show WX _ _ _ 16 [(0, .ref k)] [.int (8 - nI (c % 8)), .int 0, .ref k] (n, s, h)
    have c8 : 0 < c % 8 := Nat.pos_of_ne_zero (fun z => c_4 (by rw [z]; decide))
    rw [nIsubc (show c % 8 ≤ 8 by omega)]
    refine WX.callC (vs := [.ref k, .int (nI 0), .int (nI (8 - c % 8))]) rfl rfl rfl (Nat.le_of_ble_eq_true rfl) (rcv_ok (by omega) F_h_k) ?_
    refine w_addW hk P_h_r hN (by decide) (by omega) (fun h2 fr2 r2 => ?_)
    show WX _ _ _ 19 [(0, .ref k)] [] (n, s, h2)
    refine WX.ret0 rfl (kk h2 fr2 ?_)
    rw [Nat.zero_mod, Nat.zero_mul, Nat.add_zero, show c + (8 - c % 8) = 8 * ((c + 7) / 8) by omega] at r2
    exact r2.done
