/-! bits and bytes of the reference: put, fill, begin, say, sayNumber, sayMade -/
theorem sm31 : ∀ k, k < 32 → ((nI k &&& 31).toBitVec.smod 32).toNat = k := by decide +kernel
theorem nI_or {a b : Nat} (ha : a < 2 ^ 32) (hb : b < 2 ^ 32) : nI a ||| nI b = nI (a ||| b) := by
  apply Int32.toBitVec_inj.mp
  show BitVec.ofNat 32 a ||| BitVec.ofNat 32 b = BitVec.ofNat 32 (a ||| b)
  apply BitVec.eq_of_toNat_eq
  rw [BitVec.toNat_or, BitVec.toNat_ofNat, BitVec.toNat_ofNat, BitVec.toNat_ofNat, Nat.mod_eq_of_lt ha, Nat.mod_eq_of_lt hb, Nat.mod_eq_of_lt (Nat.or_lt_two_pow ha hb)]
def Fa (A B : Nat → Nat → Int32) (c : Nat) : Prop := ∀ b, b ≠ c → B b = A b
theorem Fa.rf {A : Nat → Nat → Int32} {c : Nat} : Fa A A c := fun _ _ => rfl
theorem Fa.ztr {A B D : Nat → Nat → Int32} {c : Nat} (a : Fa A B c) (b : Fa B D c) : Fa A D c := fun x hx => (b x hx).trans (a x hx)
theorem Fa.ast {A B D : Nat → Nat → Int32} {c i : Nat} {v : Int32} (a : Fa A B c) (e : D = upA B c i v) : Fa A D c := fun x hx => by rw [e, upA_ne hx]; exact a x hx
def MadeIs (I : Nat → Int32) (A : Nat → Nat → Int32) (c w : Nat) : Prop := I 38 = nI c ∧ c ≤ 192000 ∧ w < 2 ^ c ∧ ∀ i, i < 24000 → A 24 i = nI (w / 256 ^ i % 256)
def FrameIs (I : Nat → Int32) (A : Nat → Nat → Int32) (l : List Nat) : Prop := I 40 = nI l.length ∧ ∀ i, i < l.length → i < 12000 → A 25 i = nI (l.getD i 0)
theorem p256 (i : Nat) : 256 ^ i = 2 ^ (8 * i) := by rw [Nat.pow_mul]
theorem MadeIs.bit {I J : Nat → Int32} {A : Nat → Nat → Int32} {c w b : Nat} (M : MadeIs I A c w) (hb : b < 2) (hc : c < 192000) (K : J 38 = nI (c + 1)) : MadeIs J (upA A 24 (c / 8) (A 24 (c / 8) ||| nI (b * 2 ^ (c % 8)))) (c + 1) (w + b * 2 ^ c) := by
  obtain ⟨-, -, hw, hA⟩ := M
  refine ⟨K, by omega, w_lt (n := 1) hw (by omega), fun i hi => ?_⟩
  rw [upA_same]
  have hq := hold_lt hw
  have h7 : 2 ^ (c % 8) ≤ 2 ^ 7 := Nat.pow_le_pow_right (by decide) (by omega)
  rcases Nat.lt_trichotomy i (c / 8) with z | z | z
  · rw [pk_un (by omega), by_lo (by omega)]
    exact hA i hi
  · subst z
    rw [pk_us, hA _ hi, p256, hold_eq]
    generalize w / 2 ^ (8 * (c / 8)) = p at hq
    have e1 : p % 256 = p := Nat.mod_eq_of_lt (by omega)
    have hb1 : b * 2 ^ (c % 8) ≤ 1 * 2 ^ 7 := Nat.mul_le_mul (by omega) h7
    rw [e1, nI_or (by omega) (by omega), or_add hq, Nat.mod_eq_of_lt (show p + b * 2 ^ (c % 8) < 256 by omega)]
  · rw [pk_un (by omega), hA i hi, p256]
    have h2 : 2 ^ (c + 1) ≤ 2 ^ (8 * i) := Nat.pow_le_pow_right (by decide) (by omega)
    have h3 := w_lt (n := 1) (c := c) hw (show b < 2 ^ 1 by omega)
    have h4 : 2 ^ c ≤ 2 ^ (8 * i) := Nat.pow_le_pow_right (by decide) (by omega)
    rw [Nat.div_eq_of_lt (by omega), Nat.div_eq_of_lt (by omega)]
theorem MadeIs.over {I J : Nat → Int32} {A : Nat → Nat → Int32} {c w d : Nat} (M : MadeIs I A c w) (hd : c + d ≤ 192000) (K : J 38 = nI (c + d)) : MadeIs J A (c + d) w := ⟨K, hd, Nat.lt_of_lt_of_le M.2.2.1 (Nat.pow_le_pow_right (by decide) (by omega)), M.2.2.2⟩
theorem getD_app {l : List Nat} {x i : Nat} : (l ++ [x]).getD i 0 = if i = l.length then x else l.getD i 0 := by
  rw [List.getD_eq_getElem?_getD, List.getD_eq_getElem?_getD]
  by_cases h : i = l.length
  · subst h
    rw [if_pos rfl, List.getElem?_append_right (Nat.le_refl _), Nat.sub_self]
    rfl
  · rw [if_neg h]
    rcases Nat.lt_or_ge i l.length with z | z
    · rw [List.getElem?_append_left z]
    · rw [List.getElem?_append_right z, List.getElem?_eq_none (by rw [List.length_singleton]; omega), List.getElem?_eq_none z]
theorem FrameIs.st {I J : Nat → Int32} {A : Nat → Nat → Int32} {l : List Nat} {x : Nat} (F : FrameIs I A l) (K : J 40 = nI (l.length + 1)) : FrameIs J (upA A 25 l.length (nI x)) (l ++ [x]) := by
  refine ⟨by rw [List.length_append]; exact K, fun i hi h2 => ?_⟩
  rw [List.length_append, List.length_singleton] at hi
  rw [upA_same, getD_app]
  by_cases q : i = l.length
  · rw [if_pos q, q, pk_us]
  · rw [if_neg q, pk_un q]
    exact F.2 i (by omega) h2
theorem FrameIs.no {I J : Nat → Int32} {A : Nat → Nat → Int32} {l : List Nat} {x : Nat} (F : FrameIs I A l) (hl : 12000 ≤ l.length) (K : J 40 = nI (l.length + 1)) : FrameIs J A (l ++ [x]) := by
  refine ⟨by rw [List.length_append]; exact K, fun i hi h2 => ?_⟩
  rw [getD_app, if_neg (by omega)]
  exact F.2 i (by omega) h2
theorem byteN (x : Nat) : nI x &&& 255 = nI (x % 256) := by
  have e : nI x = nI (x % 2 ^ 32) := by
    apply Int32.toBitVec_inj.mp
    show BitVec.ofNat 32 x = BitVec.ofNat 32 (x % 2 ^ 32)
    apply BitVec.eq_of_toNat_eq
    rw [BitVec.toNat_ofNat, BitVec.toNat_ofNat, Nat.mod_mod]
  rw [e, pk_andN (Nat.mod_lt _ (by decide)) 8 (by decide)]
  congr 1
  omega
set_option maxRecDepth 20000 in
theorem m_sayL {d n s : Nat} {h : Nat → aE} {m : Nat} {I : Nat → Int32} {AR : Nat → Nat → Int32} {LN : Nat → Int64} {l : List Nat} {x : Nat} (hm : m + 43 < n) (M_h : MAt h m I AR LN) (hF : FrameIs I AR l) (hl : l.length < 2 ^ 29)  {Ψ : Option Value → aH → Prop} (kk : ∀ h' I' A', Fr h h' (inM m) → MAt h' m I' A' LN → Fi I I' (fun f => f = 40) → Fa AR A' 25 → FrameIs I' A' (l ++ [x % 256]) → Ψ none (n, s, h')) : WO (mM (d + 1)) 150 [.ref m, .int (nI x)] (n, s, h) Ψ := by
  refine WO.of (Nat.le_of_ble_eq_true rfl) ?_
  have FR_h : Fr h h (inM m) := Fr.rf
  have FI_I : Fi I I (fun f => f = 40) := Fi.rf
  have K_I_40 : I 40 = nI l.length := hF.1
  show WX (lk tX12_say) (mM d) Ψ 0 [(0, .ref m), (1, .int (nI x))] [] (n, s, h)
  refine WX.s1 rfl rfl ?_
  refine WX.mgetK (x := (nI l.length)) rfl hm M_h rfl K_I_40 ?_
  refine WX.s1 rfl rfl ?_
  refine WX.icmp rfl (fun c_7 => ?_) (fun c_7 => ?_)
  · skip
    refine WX.s1 rfl rfl ?_
    refine WX.s1 rfl rfl ?_
    refine WX.mgetK (x := (nI l.length)) rfl hm M_h rfl K_I_40 ?_
    refine WX.s1 rfl rfl ?_
    refine WX.s1 rfl rfl ?_
    refine WX.mput rfl hm M_h (rfl) (by decide) (fun _ => rfl) (fun h31n1 I31n1 e_I31n1 M_h31n1 frh31n1 => ?_)
    have FR_h31n1 := FR_h.ztr frh31n1
    have FI_I31n1 : Fi I I31n1 (fun f => f = 40) := FI_I.zup e_I31n1 (by first | exact rfl | decide | omega)
    have K_I31n1_40 : I31n1 40 = (nI (l.length + 1)) := by rw [e_I31n1]; exact pk_us.trans (nI_1 _)
    clear M_h FR_h FI_I e_I31n1 frh31n1 K_I_40
    have hge : 12000 ≤ l.length := (nI_leI (a := 12000) (by decide) (by omega)).mp c_7
    exact WX.ret0 rfl (kk h31n1 I31n1 AR FR_h31n1 M_h31n1 FI_I31n1 Fa.rf (hF.no hge K_I31n1_40))
  · skip
    have hlt : l.length < 12000 := Nat.lt_of_not_le (fun z => c_7 (nI_le (a := 12000) z (by omega)))
    refine WX.s1 rfl rfl ?_
    refine WX.mget rfl hm M_h rfl ?_
    refine WX.s1 rfl rfl ?_
    refine WX.mgetK (x := (nI l.length)) rfl hm M_h rfl K_I_40 ?_
    refine WX.s1 rfl rfl ?_
    refine WX.s1 rfl rfl ?_
    refine WX.s1 rfl rfl ?_
    refine WX.mast (c := 25) rfl hm M_h (by decide) (by decide) (by decide) (by decide) (vp_in_nI (N := 12000) (by omega) (by decide)) (fun h23n2 A23n2 e_A23n2 M_h23n2 frh23n2 => ?_)
    try dsimp only at e_A23n2
    have FR_h23n2 := FR_h.ztr frh23n2
    clear M_h FR_h frh23n2
    refine WX.s1 rfl rfl ?_
    refine WX.s1 rfl rfl ?_
    refine WX.mgetK (x := (nI l.length)) rfl hm M_h23n2 rfl K_I_40 ?_
    refine WX.s1 rfl rfl ?_
    refine WX.s1 rfl rfl ?_
    refine WX.mput rfl hm M_h23n2 (rfl) (by decide) (fun _ => rfl) (fun h31n3 I31n3 e_I31n3 M_h31n3 frh31n3 => ?_)
    have FR_h31n3 := FR_h23n2.ztr frh31n3
    have FI_I31n3 : Fi I I31n3 (fun f => f = 40) := FI_I.zup e_I31n3 (by first | exact rfl | decide | omega)
    have K_I31n3_40 : I31n3 40 = (nI (l.length + 1)) := by rw [e_I31n3]; exact pk_us.trans (nI_1 _)
    clear M_h23n2 FR_h23n2 FI_I e_I31n3 frh31n3 K_I_40
    have hF2 := hF.st (x := x % 256) K_I31n3_40
    rw [byteN, nI_clamp (by omega)] at e_A23n2
    rw [← e_A23n2] at hF2
    exact WX.ret0 rfl (kk h31n3 I31n3 A23n2 FR_h31n3 M_h31n3 FI_I31n3 (Fa.rf.ast e_A23n2) hF2)
theorem leN (v : Int64) {i : Nat} (hi : i < 8) : (v >>> ((8 * nI i).toInt64 &&& 63) &&& 255).toInt32 = nI (leB v i) := by
  have e1 : (8 * nI i).toInt64 &&& 63 = lN (8 * i) := by
    obtain rfl | rfl | rfl | rfl | rfl | rfl | rfl | rfl : i = 0 ∨ i = 1 ∨ i = 2 ∨ i = 3 ∨ i = 4 ∨ i = 5 ∨ i = 6 ∨ i = 7 := by omega
    all_goals decide +kernel
  rw [e1]
  apply Int32.toBitVec_inj.mp
  apply BitVec.eq_of_toNat_eq
  rw [Int64.toBitVec_toInt32, Int64.toBitVec_and, Int64.toBitVec_shiftRight, wb_tb]
  show (BitVec.signExtend 32 (BitVec.sshiftRight' v.toBitVec ((BitVec.ofNat 64 (8 * i)).smod 64) &&& 255#64)).toNat = (BitVec.ofNat 32 (leB v i)).toNat
  rw [wb_sm _ (by omega), BitVec.signExtend_eq_setWidth_of_le _ (by decide), BitVec.toNat_setWidth, BitVec.toNat_ofNat, BitVec.toNat_and]
  have hs : (BitVec.ofNat 64 (8 * i)).toNat = 8 * i := by rw [BitVec.toNat_ofNat]; omega
  have hb : leB v i < 256 := Nat.mod_lt _ (by decide)
  rw [Nat.mod_eq_of_lt (show leB v i < 2 ^ 32 by omega)]
  have e2 : (255#64).toNat = 2 ^ 8 - 1 := rfl
  rw [e2, Nat.and_two_pow_sub_one_eq_mod]
  have e3 : (BitVec.sshiftRight' v.toBitVec (BitVec.ofNat 64 (8 * i))).toNat % 2 ^ 8 = leB v i := by
    unfold leB
    apply Nat.eq_of_testBit_eq
    intro j
    rw [show (256 : Nat) = 2 ^ 8 from rfl, Nat.testBit_mod_two_pow, Nat.testBit_mod_two_pow, BitVec.testBit_toNat, Nat.testBit_div_two_pow]
    by_cases hj : j < 8
    · rw [decide_eq_true hj, Bool.true_and, Bool.true_and, BitVec.sshiftRight_eq', BitVec.getLsbD_sshiftRight, hs]
      have : ¬ (64 ≤ j) := by omega
      simp only [this, decide_false, Bool.not_false, Bool.true_and]
      rw [if_pos (by omega), BitVec.testBit_toNat]
      congr 1
      omega
    · rw [decide_eq_false hj, Bool.false_and, Bool.false_and]
  rw [e3]
  exact Nat.mod_eq_of_lt (by omega)
set_option maxRecDepth 20000 in
theorem m_sayNumL {d n s : Nat} {h : Nat → aE} {m : Nat} {I : Nat → Int32} {AR : Nat → Nat → Int32} {LN : Nat → Int64} {l : List Nat} {b : Nat} {v : Int64} (hm : m + 43 < n) (M_h : MAt h m I AR LN) (hF : FrameIs I AR l) (hb : b ≤ 8) (hl : l.length + b < 2 ^ 29)  {Ψ : Option Value → aH → Prop} (kk : ∀ h' I' A', Fr h h' (inM m) → MAt h' m I' A' LN → Fi I I' (fun f => f = 40) → Fa AR A' 25 → FrameIs I' A' (l ++ leL v b) → Ψ none (n, s, h')) : WO (mM (d + 2)) 151 [.ref m, .long v, .int (nI b)] (n, s, h) Ψ := by
  refine WO.of (Nat.le_of_ble_eq_true rfl) ?_
  have FR_h : Fr h h (inM m) := Fr.rf
  have FI_I : Fi I I (fun f => f = 40) := Fi.rf
  show WX (lk tX12_sayNumber) (mM (d + 1)) Ψ 0 [(0, .ref m), (1, .long v), (3, .int (nI b))] [] (n, s, h)
  refine WX.s1 rfl rfl ?_
  refine WX.s1 (L' := [(0, .ref m), (1, .long v), (3, .int (nI b)), (4, .int 0)]) rfl rfl ?_
  have lp3 : ∀ (t i : Nat) (hL : Nat → aE) (IL : Nat → Int32) (AL : Nat → Nat → Int32), i + t = b → Fr h hL (inM m) → MAt hL m IL AL LN → Fi I IL (fun f => f = 40) → Fa AR AL 25 → FrameIs IL AL (l ++ leL v i) → WX (lk tX12_sayNumber) (mM (d + 1)) Ψ 3 [(0, .ref m), (1, .long v), (3, .int (nI b)), (4, .int (nI i))] [] (n, s, hL) := by
    clear M_h FR_h FI_I
    intro t
    induction t with
    | zero =>
      intro i hL IL AL ht FR_hL M_hL FI_IL FA_AL hInv
      have hle : (l ++ leL v i).length < 2 ^ 29 := by rw [List.length_append, leL_len]; omega
      refine WX.s1 rfl rfl ?_
      refine WX.s1 rfl rfl ?_
      refine WX.icmp rfl (fun c_6 => ?_) (fun c_6 => absurd (nI_le (by omega) (by omega)) c_6)
      obtain rfl : i = b := by omega
      exact WX.ret0 rfl (kk hL IL AL FR_hL M_hL FI_IL FA_AL hInv)
    | succ t ih =>
      intro i hL IL AL ht FR_hL M_hL FI_IL FA_AL hInv
      have hle : (l ++ leL v i).length < 2 ^ 29 := by rw [List.length_append, leL_len]; omega
      refine WX.s1 rfl rfl ?_
      refine WX.s1 rfl rfl ?_
      refine WX.icmp rfl (fun c_6 => absurd c_6 (nI_ge (by omega) (by omega))) (fun c_6 => ?_)
      refine WX.s1 rfl rfl ?_
      refine WX.s1 rfl rfl ?_
      refine WX.s1 rfl rfl ?_
      refine WX.s1 rfl rfl ?_
      refine WX.s1 rfl rfl ?_
      refine WX.s1 rfl rfl ?_
      refine WX.s1 rfl rfl ?_
      refine WX.s1 rfl rfl ?_
      refine WX.s1 rfl rfl ?_
      rw [leN v (show i < 8 by omega)]
      refine WX.callC (vs := [.ref m, .int (nI (leB v i))]) rfl rfl rfl (Nat.le_of_ble_eq_true rfl) (M_hL.rcv hm) ?_
      refine m_sayL hm M_hL hInv hle (fun h22n1 I22n1 A22n1 fr22n1 M_h22n1 fi22n1 fa22n1 hF2 => ?_)
      have hb8 : leB v i < 256 := Nat.mod_lt _ (by decide)
      rw [Nat.mod_eq_of_lt hb8] at hF2
      have FA2 := FA_AL.ztr fa22n1
      have FR_h22n1 := FR_hL.ztr fr22n1
      have FI_I22n1 := FI_IL.ztr fi22n1
      show WX _ _ _ 25 [(0, .ref m), (1, .long v), (3, .int (nI b)), (4, .int (nI i))] [] (n, s, h22n1)
      refine WX.s1 (L' := [(0, .ref m), (1, .long v), (3, .int (nI b)), (4, .int ((nI i) + 1))]) rfl rfl ?_
      refine WX.s1 rfl rfl ?_
      rw [nI_1 i]
      refine ih (i + 1) h22n1 I22n1 A22n1 (by omega) FR_h22n1 M_h22n1 FI_I22n1 FA2 ?_
      rw [show leL v (i + 1) = leL v i ++ [leB v i] by simp [leL, List.range_succ], ← List.append_assoc]
      exact hF2
  exact lp3 b 0 h I AR (by omega) FR_h M_h FI_I Fa.rf (by rw [show leL v 0 = [] from rfl, List.append_nil]; exact hF)
set_option maxRecDepth 20000 in
theorem m_putV {d n s : Nat} {h : Nat → aE} {m : Nat} {I : Nat → Int32} {AR : Nat → Nat → Int32} {LN : Nat → Int64} {c w v b : Nat} (hm : m + 43 < n) (M_h : MAt h m I AR LN) (hM : MadeIs I AR c w) (hv : v < 2 ^ 31) (hb : b ≤ 31) (hc : c + b ≤ 192000)  {Ψ : Option Value → aH → Prop} (kk : ∀ h' I' A', Fr h h' (inM m) → MAt h' m I' A' LN → Fi I I' (fun f => f = 38) → Fa AR A' 24 → MadeIs I' A' (c + b) (w + v % 2 ^ b * 2 ^ c) → Ψ none (n, s, h')) : WO (mM (d + 1)) 147 [.ref m, .int (nI v), .int (nI b)] (n, s, h) Ψ := by
  refine WO.of (Nat.le_of_ble_eq_true rfl) ?_
  have FR_h : Fr h h (inM m) := Fr.rf
  have FI_I : Fi I I (fun f => f = 38) := Fi.rf
  show WX (lk tX12_put) (mM d) Ψ 0 [(0, .ref m), (1, .int (nI v)), (2, .int (nI b))] [] (n, s, h)
  refine WX.s1 rfl rfl ?_
  refine WX.s1 (L' := [(0, .ref m), (1, .int (nI v)), (2, .int (nI b)), (3, .int 0)]) rfl rfl ?_
  have lp2 : ∀ (t i : Nat) (hL : Nat → aE) (IL : Nat → Int32) (AL : Nat → Nat → Int32), i + t = b → Fr h hL (inM m) → MAt hL m IL AL LN → Fi I IL (fun f => f = 38) → Fa AR AL 24 → MadeIs IL AL (c + i) (w + v % 2 ^ i * 2 ^ c) → WX (lk tX12_put) (mM d) Ψ 2 [(0, .ref m), (1, .int (nI v)), (2, .int (nI b)), (3, .int (nI i))] [] (n, s, hL) := by
    clear M_h FR_h FI_I
    intro t
    induction t with
    | zero =>
      intro i hL IL AL ht FR_hL M_hL FI_IL FA_AL hInv
      have K_IL_38 : IL 38 = nI (c + i) := hInv.1
      refine WX.s1 rfl rfl ?_
      refine WX.s1 rfl rfl ?_
      refine WX.icmp rfl (fun c_4 => ?_) (fun c_4 => absurd (nI_le (by omega) (by omega)) c_4)
      obtain rfl : i = b := by omega
      exact WX.ret0 rfl (kk hL IL AL FR_hL M_hL FI_IL FA_AL hInv)
    | succ t ih =>
      intro i hL IL AL ht FR_hL M_hL FI_IL FA_AL hInv
      have K_IL_38 : IL 38 = nI (c + i) := hInv.1
      refine WX.s1 rfl rfl ?_
      refine WX.s1 rfl rfl ?_
      refine WX.icmp rfl (fun c_4 => absurd c_4 (nI_ge (by omega) (by omega))) (fun c_4 => ?_)
      refine WX.s1 rfl rfl ?_
      refine WX.mgetK (x := (nI (c + i))) rfl hm M_hL rfl K_IL_38 ?_
      refine WX.s1 rfl rfl ?_
      refine WX.icmp rfl (fun c_13 => absurd c_13 (nI_ge (b := 192000) (by omega) (by omega))) (fun c_13 => ?_)
      refine WX.s1 rfl rfl ?_
      refine WX.mget rfl hm M_hL rfl ?_
      refine WX.s1 rfl rfl ?_
      refine WX.mgetK (x := (nI (c + i))) rfl hm M_hL rfl K_IL_38 ?_
      refine WX.s1 rfl rfl ?_
      refine WX.div rfl (by decide) ?_
      refine WX.s1 rfl rfl ?_
      refine WX.mget rfl hm M_hL rfl ?_
      refine WX.s1 rfl rfl ?_
      refine WX.mgetK (x := (nI (c + i))) rfl hm M_hL rfl K_IL_38 ?_
      refine WX.s1 rfl rfl ?_
      refine WX.div rfl (by decide) ?_
      refine WX.mald (c := 24) rfl hm M_hL (by decide) (by decide) (by decide) (by decide) (by rw [show nI (c + i) / 8 = nI ((c + i) / 8) from pk_div (by omega) (by decide) (by decide)]; exact vp_in_nI (N := 24000) (by omega) (by decide)) ?_
      refine WX.s1 rfl rfl ?_
      refine WX.s1 rfl rfl ?_
      refine WX.s1 rfl rfl ?_
      refine WX.s1 rfl rfl ?_
      refine WX.s1 rfl rfl ?_
      refine WX.s1 rfl rfl ?_
      refine WX.mgetK (x := (nI (c + i))) rfl hm M_hL rfl K_IL_38 ?_
      refine WX.s1 rfl rfl ?_
      refine WX.div rfl (by decide) ?_
      refine WX.s1 rfl rfl ?_
      refine WX.s1 rfl rfl ?_
      refine WX.mast (c := 24) rfl hm M_hL (by decide) (by decide) (by decide) (by decide) (by rw [show nI (c + i) / 8 = nI ((c + i) / 8) from pk_div (by omega) (by decide) (by decide)]; exact vp_in_nI (N := 24000) (by omega) (by decide)) (fun h53n1 A53n1 e_A53n1 M_h53n1 frh53n1 => ?_)
      try dsimp only at e_A53n1
      have FR_h53n1 := FR_hL.ztr frh53n1
      clear M_hL FR_hL frh53n1
      refine WX.s1 rfl rfl ?_
      refine WX.s1 rfl rfl ?_
      refine WX.mgetK (x := (nI (c + i))) rfl hm M_h53n1 rfl K_IL_38 ?_
      refine WX.s1 rfl rfl ?_
      refine WX.s1 rfl rfl ?_
      refine WX.mput rfl hm M_h53n1 (rfl) (by decide) (fun _ => rfl) (fun h61n2 I61n2 e_I61n2 M_h61n2 frh61n2 => ?_)
      have FR_h61n2 := FR_h53n1.ztr frh61n2
      have FI_I61n2 : Fi I I61n2 (fun f => f = 38) := FI_IL.zup e_I61n2 (by first | exact rfl | decide | omega)
      have K_I61n2_38 : I61n2 38 = (nI (c + i + 1)) := by rw [e_I61n2]; exact pk_us.trans (nI_1 _)
      clear M_h53n1 FR_h53n1 FI_IL e_I61n2 frh61n2 K_IL_38
      refine WX.s1 (L' := [(0, .ref m), (1, .int (nI v)), (2, .int (nI b)), (3, .int ((nI i) + 1))]) rfl rfl ?_
      refine WX.s1 rfl rfl ?_
      rw [nI_1 i]
      refine ih (i + 1) h61n2 I61n2 A53n1 (by omega) FR_h61n2 M_h61n2 FI_I61n2 (FA_AL.ast e_A53n1) ?_
      have hB := hInv.bit (b := v / 2 ^ i % 2) (Nat.mod_lt _ (by decide)) (by omega) K_I61n2_38
      have hvi : v / 2 ^ i < 2 ^ 31 := Nat.lt_of_le_of_lt (Nat.div_le_self _ _) hv
      have d8 : nI (c + i) / 8 = nI ((c + i) / 8) := pk_div (by omega) (by decide) (by decide)
      have r8 : nI (c + i) - nI (c + i) / 8 * 8 = nI ((c + i) % 8) := pk_rem (by omega) (by decide) (by decide)
      have sh : nI v >>> (nI i &&& 31) = nI (v / 2 ^ i) := pk_shrN hv _ i (sm31 i (by omega))
      have a1 : nI (v / 2 ^ i) &&& 1 = nI (v / 2 ^ i % 2) := pk_andN (by omega) 1 (by decide)
      have b1 : v / 2 ^ i % 2 * 2 ^ ((c + i) % 8) ≤ 1 * 2 ^ 7 := Nat.mul_le_mul (by omega) (Nat.pow_le_pow_right (by decide) (by omega))
      have sl : nI (v / 2 ^ i % 2) <<< (nI ((c + i) % 8) &&& 31) = nI (v / 2 ^ i % 2 * 2 ^ ((c + i) % 8)) := pk_shlN _ ((c + i) % 8) (sm31 _ (by omega)) (by omega)
      rw [r8, d8, sh, a1, sl, nI_clamp (by omega)] at e_A53n1
      rw [← e_A53n1] at hB
      have ew : w + v % 2 ^ (i + 1) * 2 ^ c = w + v % 2 ^ i * 2 ^ c + v / 2 ^ i % 2 * 2 ^ (c + i) := by rw [Nat.mod_pow_succ, Nat.add_mul, show 2 ^ i * (v / 2 ^ i % 2) * 2 ^ c = v / 2 ^ i % 2 * 2 ^ (c + i) by rw [Nat.pow_add]; ac_rfl, Nat.add_assoc]
      rw [ew]
      exact hB
  exact lp2 b 0 h I AR (by omega) FR_h M_h FI_I Fa.rf (by rw [Nat.pow_zero, Nat.mod_one, Nat.zero_mul]; exact hM)
set_option maxRecDepth 20000 in
theorem m_fillV {d n s : Nat} {h : Nat → aE} {m : Nat} {I : Nat → Int32} {AR : Nat → Nat → Int32} {LN : Nat → Int64} {c w : Nat} (hm : m + 43 < n) (M_h : MAt h m I AR LN) (hM : MadeIs I AR c w) (hc : c + 8 ≤ 192000)  {Ψ : Option Value → aH → Prop} (kk : ∀ h' I' A', Fr h h' (inM m) → MAt h' m I' A' LN → Fi I I' (fun f => f = 38) → Fa AR A' 24 → MadeIs I' A' (8 * ((c + 7) / 8)) w → Ψ none (n, s, h')) : WO (mM (d + 1)) 148 [.ref m] (n, s, h) Ψ := by
  refine WO.of (Nat.le_of_ble_eq_true rfl) ?_
  have FR_h : Fr h h (inM m) := Fr.rf
  have FI_I : Fi I I (fun f => f = 38) := Fi.rf
  show WX (lk tX12_fill) (mM d) Ψ 0 [(0, .ref m)] [] (n, s, h)
  have lp : ∀ (t i : Nat) (hL : Nat → aE) (IL : Nat → Int32), i + t = 8 * ((c + 7) / 8) → c ≤ i → Fr h hL (inM m) → MAt hL m IL AR LN → Fi I IL (fun f => f = 38) → MadeIs IL AR i w → WX (lk tX12_fill) (mM d) Ψ 0 [(0, .ref m)] [] (n, s, hL) := by
    clear M_h FR_h FI_I
    intro t
    induction t with
    | zero =>
      intro i hL IL ht hci FR_hL M_hL FI_IL hInv
      have K_IL_38 : IL 38 = nI i := hInv.1
      have r8 : nI i - nI i / 8 * 8 = nI (i % 8) := pk_rem (by omega) (by decide) (by decide)
      refine WX.s1 rfl rfl ?_
      refine WX.mgetK (x := (nI i)) rfl hm M_hL rfl K_IL_38 ?_
      refine WX.s1 rfl rfl ?_
      refine WX.div rfl (by decide) ?_
      show WX _ _ _ 7 [(0, .ref m)] [.int (nI i - nI i / 8 * 8)] (n, s, hL)
      rw [r8]
      refine WX.if_ rfl (fun c_7 => ?_) (fun c_7 => absurd (by rw [show i % 8 = 0 by omega]; rfl) c_7)
      obtain rfl : i = 8 * ((c + 7) / 8) := by omega
      exact WX.ret0 rfl (kk hL IL AR FR_hL M_hL FI_IL Fa.rf hInv)
    | succ t ih =>
      intro i hL IL ht hci FR_hL M_hL FI_IL hInv
      have K_IL_38 : IL 38 = nI i := hInv.1
      have r8 : nI i - nI i / 8 * 8 = nI (i % 8) := pk_rem (by omega) (by decide) (by decide)
      refine WX.s1 rfl rfl ?_
      refine WX.mgetK (x := (nI i)) rfl hm M_hL rfl K_IL_38 ?_
      refine WX.s1 rfl rfl ?_
      refine WX.div rfl (by decide) ?_
      show WX _ _ _ 7 [(0, .ref m)] [.int (nI i - nI i / 8 * 8)] (n, s, hL)
      rw [r8]
      refine WX.if_ rfl (fun c_7 => absurd c_7 (nI_ne0 (by omega) (by omega))) (fun c_7 => ?_)
      refine WX.s1 rfl rfl ?_
      refine WX.s1 rfl rfl ?_
      refine WX.mgetK (x := (nI i)) rfl hm M_hL rfl K_IL_38 ?_
      refine WX.s1 rfl rfl ?_
      refine WX.s1 rfl rfl ?_
      refine WX.mput rfl hm M_hL (rfl) (by decide) (fun _ => rfl) (fun h17n1 I17n1 e_I17n1 M_h17n1 frh17n1 => ?_)
      have FR_h17n1 := FR_hL.ztr frh17n1
      have FI_I17n1 : Fi I I17n1 (fun f => f = 38) := FI_IL.zup e_I17n1 (by first | exact rfl | decide | omega)
      have K_I17n1_38 : I17n1 38 = (nI (i + 1)) := by rw [e_I17n1]; exact pk_us.trans (nI_1 _)
      clear M_hL FR_hL FI_IL e_I17n1 frh17n1 K_IL_38
      refine WX.s1 rfl rfl ?_
      exact ih (i + 1) h17n1 I17n1 (by omega) (by omega) FR_h17n1 M_h17n1 FI_I17n1 (hInv.over (d := 1) (by omega) K_I17n1_38)
  exact lp (8 * ((c + 7) / 8) - c) c h I (by omega) (Nat.le_refl _) FR_h M_h FI_I hM
theorem MadeIs.zero {I : Nat → Int32} {A B : Nat → Nat → Int32} {c w i : Nat} (M : MadeIs I A c w) (hi : i ≤ 24000) (hci : c ≤ 8 * i ∨ i = 24000) (h1 : ∀ j, j < i → B 24 j = 0) (h2 : ∀ j, i ≤ j → B 24 j = A 24 j) : ∀ j, j < 24000 → B 24 j = nI (0 / 256 ^ j % 256) := by
  intro j hj
  rw [Nat.zero_div]
  rcases Nat.lt_or_ge j i with z | z
  · exact h1 j z
  · rw [h2 j z, M.2.2.2 j hj, p256, Nat.div_eq_of_lt (Nat.lt_of_lt_of_le M.2.2.1 (Nat.pow_le_pow_right (by decide) (by omega)))]
set_option maxRecDepth 20000 in
theorem m_beginV {d n s : Nat} {h : Nat → aE} {m : Nat} {I : Nat → Int32} {AR : Nat → Nat → Int32} {LN : Nat → Int64} {c w : Nat} (hm : m + 43 < n) (M_h : MAt h m I AR LN) (hM : MadeIs I AR c w)  {Ψ : Option Value → aH → Prop} (kk : ∀ h' I' A', Fr h h' (inM m) → MAt h' m I' A' LN → Fi I I' (fun f => f = 38) → Fa AR A' 24 → MadeIs I' A' 0 0 → Ψ none (n, s, h')) : WO (mM (d + 1)) 149 [.ref m] (n, s, h) Ψ := by
  refine WO.of (Nat.le_of_ble_eq_true rfl) ?_
  have FR_h : Fr h h (inM m) := Fr.rf
  have FI_I : Fi I I (fun f => f = 38) := Fi.rf
  have K_I_38 : I 38 = nI c := hM.1
  have hc := hM.2.1
  show WX (lk tX12_begin) (mM d) Ψ 0 [(0, .ref m)] [] (n, s, h)
  refine WX.s1 rfl rfl ?_
  refine WX.s1 (L' := [(0, .ref m), (1, .int 0)]) rfl rfl ?_
  have lp : ∀ (t i : Nat) (hL : Nat → aE) (AL : Nat → Nat → Int32), i + t = 24000 → Fr h hL (inM m) → MAt hL m I AL LN → Fa AR AL 24 → (∀ j, j < i → AL 24 j = 0) → (∀ j, i ≤ j → AL 24 j = AR 24 j) → WX (lk tX12_begin) (mM d) Ψ 2 [(0, .ref m), (1, .int (nI i))] [] (n, s, hL) := by
    clear M_h FR_h
    intro t
    induction t with
    | zero =>
      intro i hL AL ht FR_hL M_hL FA_AL h1 h2
      refine WX.s1 rfl rfl ?_
      refine WX.s1 rfl rfl ?_
      refine WX.icmp rfl (fun c_6 => ?_) (fun c_6 => absurd (nI_le (a := 24000) (by omega) (by omega)) c_6)
      refine WX.s1 rfl rfl ?_
      refine WX.s1 rfl rfl ?_
      refine WX.mput rfl hm M_hL (rfl) (by decide) (fun _ => rfl) (fun h35n1 I35n1 e_I35n1 M_h35n1 frh35n1 => ?_)
      have FR_h35n1 := FR_hL.ztr frh35n1
      have FI_I35n1 : Fi I I35n1 (fun f => f = 38) := FI_I.zup e_I35n1 (by first | exact rfl | decide | omega)
      have K_I35n1_38 : I35n1 38 = (nI 0) := by rw [e_I35n1]; exact pk_us.trans (rfl)
      clear M_hL FR_hL FI_I e_I35n1 frh35n1 K_I_38
      refine WX.ret0 rfl (kk h35n1 I35n1 AL FR_h35n1 M_h35n1 FI_I35n1 FA_AL ⟨K_I35n1_38, by decide, by decide, hM.zero (i := i) (by omega) ?_ h1 h2⟩)
      first
        | exact Or.inr (by omega)
        | exact Or.inl ((nI_leI (by omega) (by omega)).mp c_17)
    | succ t ih =>
      intro i hL AL ht FR_hL M_hL FA_AL h1 h2
      refine WX.s1 rfl rfl ?_
      refine WX.s1 rfl rfl ?_
      refine WX.icmp rfl (fun c_6 => absurd c_6 (nI_ge (b := 24000) (by omega) (by decide))) (fun c_6 => ?_)
      refine WX.s1 rfl rfl ?_
      refine WX.s1 rfl rfl ?_
      refine WX.s1 rfl rfl ?_
      refine WX.s1 rfl rfl ?_
      refine WX.mgetK (x := (nI c)) rfl hm M_hL rfl K_I_38 ?_
      show WX _ _ _ 17 [(0, .ref m), (1, .int (nI i))] [.int (nI c), .int (8 * nI i)] (n, s, hL)
      have e8 : 8 * nI i = nI (8 * i) := (Int32.ofNat_mul 8 i).symm
      rw [e8]
      refine WX.icmp rfl (fun c_17 => ?_) (fun c_17 => ?_)
      · skip
        refine WX.s1 rfl rfl ?_
        refine WX.s1 rfl rfl ?_
        refine WX.mput rfl hm M_hL (rfl) (by decide) (fun _ => rfl) (fun h35n2 I35n2 e_I35n2 M_h35n2 frh35n2 => ?_)
        have FR_h35n2 := FR_hL.ztr frh35n2
        have FI_I35n2 : Fi I I35n2 (fun f => f = 38) := FI_I.zup e_I35n2 (by first | exact rfl | decide | omega)
        have K_I35n2_38 : I35n2 38 = (nI 0) := by rw [e_I35n2]; exact pk_us.trans (rfl)
        clear M_hL FR_hL FI_I e_I35n2 frh35n2 K_I_38
        refine WX.ret0 rfl (kk h35n2 I35n2 AL FR_h35n2 M_h35n2 FI_I35n2 FA_AL ⟨K_I35n2_38, by decide, by decide, hM.zero (i := i) (by omega) ?_ h1 h2⟩)
        first
          | exact Or.inr (by omega)
          | exact Or.inl ((nI_leI (by omega) (by omega)).mp c_17)
      · skip
        refine WX.s1 rfl rfl ?_
        refine WX.mget rfl hm M_hL rfl ?_
        refine WX.s1 rfl rfl ?_
        refine WX.s1 rfl rfl ?_
        refine WX.mast (c := 24) rfl hm M_hL (by decide) (by decide) (by decide) (by decide) (vp_in_nI (N := 24000) (by omega) (by decide)) (fun h26n3 A26n3 e_A26n3 M_h26n3 frh26n3 => ?_)
        try dsimp only at e_A26n3
        have FR_h26n3 := FR_hL.ztr frh26n3
        clear M_hL FR_hL frh26n3
        refine WX.s1 (L' := [(0, .ref m), (1, .int ((nI i) + 1))]) rfl rfl ?_
        refine WX.s1 rfl rfl ?_
        rw [nI_1 i]
        rw [nI_clamp (by omega)] at e_A26n3
        refine ih (i + 1) h26n3 A26n3 (by omega) FR_h26n3 M_h26n3 (FA_AL.ast e_A26n3) (fun j hj => ?_) (fun j hj => ?_)
        · rw [e_A26n3, upA_same]
          by_cases q : j = i
          · rw [q, pk_us]
          · rw [pk_un q]; exact h1 j (by omega)
        · rw [e_A26n3, upA_same, pk_un (by omega)]; exact h2 j (by omega)
  exact lp 24000 0 h AR (by omega) FR_h M_h Fa.rf (fun j hj => absurd hj (Nat.not_lt_zero j)) (fun j _ => rfl)
