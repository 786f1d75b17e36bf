/-! bits read -/
def btN (l : List Nat) (b : Nat) : Nat := (l).getD (b / 8) 0 / 2 ^ (b % 8) % 2
def rbN (l : List Nat) (b n : Nat) : Nat := sumN (fun k => btN l (b + k) * 2 ^ k) n
theorem bt_lt (l : List Nat) (b : Nat) : btN l b < 2 := Nat.mod_lt _ (by decide)
theorem rb_lt (l : List Nat) (b : Nat) : ∀ n, rbN l b n < 2 ^ n
  | 0 => show 0 < 2 ^ 0 from Nat.pow_pos (by decide)
  | n + 1 => by
    have h1 := rb_lt l b n
    have h2 := bt_lt l (b + n)
    show rbN l b n + btN l (b + n) * 2 ^ n < 2 ^ (n + 1)
    have h3 : btN l (b + n) * 2 ^ n ≤ 1 * 2 ^ n := Nat.mul_le_mul_right _ (by omega)
    rw [Nat.pow_succ]
    omega
theorem rb_s (l : List Nat) (b n : Nat) : rbN l b (n + 1) = rbN l b n + btN l (b + n) * 2 ^ n := rfl
theorem shrN {n k : Nat} (h : n < 2 ^ 31) (hk : k < 32) : nI n >>> (nI k &&& 31) = nI (n / 2 ^ k) := pk_shrN h _ k (sm31 k hk)
theorem nI_and {a b : Nat} (ha : a < 2 ^ 32) (hb : b < 2 ^ 32) : nI a &&& nI b = nI (a &&& b) := by
  apply Int32.toBitVec_inj.mp
  show BitVec.ofNat 32 a &&& BitVec.ofNat 32 b = BitVec.ofNat 32 (a &&& b)
  apply BitVec.eq_of_toNat_eq
  rw [BitVec.toNat_and, BitVec.toNat_ofNat, BitVec.toNat_ofNat, BitVec.toNat_ofNat, Nat.mod_eq_of_lt ha, Nat.mod_eq_of_lt hb, Nat.mod_eq_of_lt (Nat.lt_of_le_of_lt Nat.and_le_left ha)]
theorem and7 {x : Nat} (h : x < 2 ^ 31) : nI x &&& 7 = nI (x % 8) := by
  rw [show (7 : Int32) = nI (2 ^ 3 - 1) from rfl, nI_and (by omega) (by decide), Nat.and_two_pow_sub_one_eq_mod]
theorem and1 {x : Nat} (h : x < 2 ^ 31) : nI x &&& 1 = nI (x % 2) := by
  rw [show (1 : Int32) = nI (2 ^ 1 - 1) from rfl, nI_and (by omega) (by decide), Nat.and_two_pow_sub_one_eq_mod]
theorem bt_st {l : List Nat} {b i : Nat} (hl : (l).getD ((b + i) / 8) 0 < 256) (hi : i < 30) : nI (rbN l b i) ||| (((nI ((l).getD ((b + i) / 8) 0) >>> (nI ((b + i) % 8) &&& 31)) &&& 1) <<< (nI i &&& 31)) = nI (rbN l b (i + 1)) := by
  rw [shrN (by omega) (by omega), and1 (Nat.lt_of_le_of_lt (Nat.div_le_self _ _) (by omega))]
  show nI (rbN l b i) ||| (nI (btN l (b + i)) <<< (nI i &&& 31)) = _
  have h1 := rb_lt l b i
  have h2 := bt_lt l (b + i)
  have h3 : btN l (b + i) * 2 ^ i ≤ 1 * 2 ^ i := Nat.mul_le_mul_right _ (by omega)
  have h4 : 2 ^ i ≤ 2 ^ 29 := Nat.pow_le_pow_right (by decide) (by omega)
  rw [pk_shlN _ i (sm31 i (by omega)) (by omega), nI_or (by omega) (by omega), or_add h1]
  rfl
set_option maxRecDepth 20000 in
theorem x_bits {d n s : Nat} {h : Nat → aE} {l : List Nat} {ho : Int64} {hd : Int32} {b c : Nat} (hn : 190 ≤ n) (hb : b < 2 ^ 20) (hc : c < 30)  (P_h_in : RowIs h 1 8000 (some l) ho hd) {Ψ : Option Value → aH → Prop} (kk : Ψ (some (.int (nI (rbN l b c)))) (n, s, h)) : WO (mM (d + 2)) 95 [.ref 1, .int (nI b), .int (nI c)] (n, s, h) Ψ := by
  refine WO.of (Nat.le_of_ble_eq_true rfl) ?_
  have FR_h : Fr h h (fun j => False) := Fr.rf
  have hl := row_lt P_h_in
  show WX (lk tX7_bits) (mM (d + 1)) Ψ 0 [(0, .ref 1), (1, .int (nI b)), (2, .int (nI c))] [] (n, s, h)
  refine WX.s1 rfl rfl ?_
  refine WX.s1 (L' := [(0, .ref 1), (1, .int (nI b)), (2, .int (nI c)), (3, .int 0)]) rfl rfl ?_
  refine WX.s1 rfl rfl ?_
  refine WX.s1 (L' := [(0, .ref 1), (1, .int (nI b)), (2, .int (nI c)), (3, .int 0), (4, .int 0)]) rfl rfl ?_
  have lp : ∀ (t i : Nat), i + t = c → WX (lk tX7_bits) (mM (d + 1)) Ψ 5 [(0, .ref 1), (1, .int (nI b)), (2, .int (nI c)), (3, .int (nI (rbN l b i))), (4, .int (nI i))] [] (n, s, h) := by
    intro t
    induction t with
    | zero =>
      intro i ht
      obtain rfl : i = c := by omega
      refine WX.s1 rfl rfl ?_
      refine WX.s1 rfl rfl ?_
      refine WX.icmp rfl (fun c_8 => ?_) (fun c_8 => absurd ((nI_leI (a := i) (b := i) (by omega) (by omega)).mpr (by omega)) c_8)
      clear c_8
      refine WX.s1 rfl rfl ?_
      exact WX.ret1 rfl kk
    | succ t ih =>
      intro i ht
      refine WX.s1 rfl rfl ?_
      refine WX.s1 rfl rfl ?_
      refine WX.icmp rfl (fun c_8 => absurd c_8 (fun zz_ => absurd ((nI_leI (a := c) (b := i) (by omega) (by omega)).mp zz_) (Nat.not_le.mpr (by omega)))) (fun c_8 => ?_)
      clear c_8
      refine WX.s1 rfl rfl ?_
      refine WX.s1 rfl rfl ?_
      refine WX.s1 rfl rfl ?_
      refine WX.s1 (S' := [.int ((nI b) + (nI i)), .ref 1]) rfl rfl ?_
      rw [show ((nI b) + (nI i)) = nI (b + i) from nI_add b i]
      refine WX.s1 rfl rfl ?_
      refine WX.s1 (S' := [.int ((nI (b + i)) >>> (3 &&& 31)), .ref 1]) rfl rfl ?_
      rw [show nI (b + i) >>> ((3 : Int32) &&& 31) = nI ((b + i) / 8) from shrN (k := 3) (by omega) (by decide)]
      refine WX.callC (vs := [.ref 1, .int (nI ((b + i) / 8))]) rfl rfl rfl (Nat.le_of_ble_eq_true rfl) ((P_h_in).rcv (ltN hn (by decide))) ?_
      refine x_at1 (d := d) (by omega) (by decide) (by omega) P_h_in (fun v hv1 hv2 => ?_)
      show WX _ _ _ 21 [(0, .ref 1), (1, .int (nI b)), (2, .int (nI c)), (3, .int (nI (rbN l b i))), (4, .int (nI i))] [.int v] (n, s, h)
      refine WX.s1 rfl rfl ?_
      refine WX.s1 (S' := [.int (if v < 0 then 0 else v)]) rfl rfl ?_
      rw [at_mx (hl ((b + i) / 8)) hv1 hv2]
      refine WX.s1 (L' := [(0, .ref 1), (1, .int (nI b)), (2, .int (nI c)), (3, .int (nI (rbN l b i))), (4, .int (nI i)), (5, .int (nI ((l).getD ((b + i) / 8) 0)))]) rfl rfl ?_
      refine WX.s1 rfl rfl ?_
      refine WX.s1 rfl rfl ?_
      refine WX.s1 rfl rfl ?_
      refine WX.s1 rfl rfl ?_
      refine WX.s1 (S' := [.int ((nI b) + (nI i)), .int (nI ((l).getD ((b + i) / 8) 0)), .int (nI (rbN l b i))]) rfl rfl ?_
      rw [show ((nI b) + (nI i)) = nI (b + i) from nI_add b i]
      refine WX.s1 rfl rfl ?_
      refine WX.s1 (S' := [.int ((nI (b + i)) &&& 7), .int (nI ((l).getD ((b + i) / 8) 0)), .int (nI (rbN l b i))]) rfl rfl ?_
      rw [and7 (show b + i < 2 ^ 31 by omega)]
      refine WX.s1 (S' := [.int ((nI ((l).getD ((b + i) / 8) 0)) >>> ((nI ((b + i) % 8)) &&& 31)), .int (nI (rbN l b i))]) rfl rfl ?_
      refine WX.s1 rfl rfl ?_
      refine WX.s1 (S' := [.int (((nI ((l).getD ((b + i) / 8) 0)) >>> ((nI ((b + i) % 8)) &&& 31)) &&& 1), .int (nI (rbN l b i))]) rfl rfl ?_
      refine WX.s1 rfl rfl ?_
      refine WX.s1 (S' := [.int ((((nI ((l).getD ((b + i) / 8) 0)) >>> ((nI ((b + i) % 8)) &&& 31)) &&& 1) <<< ((nI i) &&& 31)), .int (nI (rbN l b i))]) rfl rfl ?_
      refine WX.s1 (S' := [.int ((nI (rbN l b i)) ||| ((((nI ((l).getD ((b + i) / 8) 0)) >>> ((nI ((b + i) % 8)) &&& 31)) &&& 1) <<< ((nI i) &&& 31)))]) rfl rfl ?_
      rw [bt_st (hl _) (show i < 30 by omega)]
      refine WX.s1 (L' := [(0, .ref 1), (1, .int (nI b)), (2, .int (nI c)), (3, .int (nI (rbN l b (i + 1)))), (4, .int (nI i)), (5, .int (nI ((l).getD ((b + i) / 8) 0)))]) rfl rfl ?_
      refine WX.s1 (L' := [(0, .ref 1), (1, .int (nI b)), (2, .int (nI c)), (3, .int (nI (rbN l b (i + 1)))), (4, .int ((nI i) + 1)), (5, .int (nI ((l).getD ((b + i) / 8) 0)))]) rfl rfl ?_
      rw [show ((nI i) + 1) = nI (i + 1) from nI_add i 1]
      refine WX.s1 rfl rfl ?_
      refine WX.keep (y := 95) [0, 1, 2, 3, 4] (show ([0, 1, 2, 3, 4, 5] : List Nat).Nodup by decide) rfl ?_
      exact ih (i + 1) (by omega)
  exact lp c 0 (by omega)
set_option maxRecDepth 20000 in
theorem m_take {d n s : Nat} {h : Nat → aE} {m : Nat} {I : Nat → Int32} {AR : Nat → Nat → Int32} {LN : Nat → Int64} {l : List Nat} {b c E : Nat} (hm : m + 43 < n) (M_h : MAt h m I AR LN) (hF : InIs I AR l) (hl : ∀ i, (l).getD i 0 < 256) (hle : (l).length ≤ 8000) (hE : E ≤ 8 * (l).length) (hb : b < 2 ^ 20) (hc : c < 30) (K_I_60 : I 60 = (nI b)) (K_I_61 : I 61 = (nI E)) {Ψ : Option Value → aH → Prop} (k0 : E < b + c → Ψ (some (.int (-1))) (n, s, h)) (k1 : b + c ≤ E → ∀ h' I', Fr h h' (inM m) → MAt h' m I' AR LN → Fi I I' (fun f => f = 60) → I' 60 = nI (b + c) → Ψ (some (.int (nI (rbN l b c)))) (n, s, h')) : WO (mM (d + 1)) 215 [.ref m, .int (nI c)] (n, s, h) Ψ := by
  refine WO.of (Nat.le_of_ble_eq_true rfl) ?_
  have FR_h : Fr h h (inM m) := Fr.rf
  have FI_I : Fi I I (fun f => f = 60) := Fi.rf
  show WX (lk tX12_take) (mM d) Ψ 0 [(0, .ref m), (1, .int (nI c))] [] (n, s, h)
  refine WX.s1 rfl rfl ?_
  refine WX.mgetK (x := (nI b)) rfl hm M_h rfl K_I_60 ?_
  refine WX.s1 rfl rfl ?_
  refine WX.s1 (S' := [.int ((nI b) + (nI c))]) rfl rfl ?_
  rw [show ((nI b) + (nI c)) = nI (b + c) from nI_add b c]
  refine WX.s1 rfl rfl ?_
  refine WX.mgetK (x := (nI E)) rfl hm M_h rfl K_I_61 ?_
  refine WX.icmp rfl (fun c_10 => ?_) (fun c_10 => ?_)
  · skip
    have n_10 : (b + c) ≤ E := (nI_leI (a := b + c) (b := E) (by omega) (by omega)).mp c_10
    refine WX.s1 rfl rfl ?_
    refine WX.s1 (L' := [(0, .ref m), (1, .int (nI c)), (2, .int 0)]) rfl rfl ?_
    refine WX.s1 rfl rfl ?_
    refine WX.s1 (L' := [(0, .ref m), (1, .int (nI c)), (2, .int 0), (3, .int 0)]) rfl rfl ?_
    have lp : ∀ (t i : Nat), i + t = c → WX (lk tX12_take) (mM d) Ψ 19 [(0, .ref m), (1, .int (nI c)), (2, .int (nI (rbN l b i))), (3, .int (nI i))] [] (n, s, h) := by
      intro t
      induction t with
      | zero =>
        intro i ht
        obtain rfl : i = c := by omega
        refine WX.s1 rfl rfl ?_
        refine WX.s1 rfl rfl ?_
        refine WX.icmp rfl (fun c_21 => ?_) (fun c_21 => absurd ((nI_leI (a := i) (b := i) (by omega) (by omega)).mpr (by omega)) c_21)
        clear c_21
        refine WX.s1 rfl rfl ?_
        refine WX.s1 rfl rfl ?_
        refine WX.mgetK (x := (nI b)) rfl hm M_h rfl K_I_60 ?_
        refine WX.s1 rfl rfl ?_
        refine WX.s1 (S' := [.int ((nI b) + (nI i)), .ref m]) rfl rfl ?_
        rw [show ((nI b) + (nI i)) = nI (b + i) from nI_add b i]
        refine WX.mput rfl hm M_h (rfl) (by decide) (fun _ => rfl) (fun h68n1 I68n1 e_I68n1 M_h68n1 frh68n1 => ?_)
        have FR_h68n1 := (FR_h).ztr frh68n1
        have FI_I68n1 : Fi I I68n1 (fun f => f = 60) := (FI_I).zup e_I68n1 (by first | exact rfl | decide | omega)
        have K_I68n1_61 : I68n1 61 = (nI E) := by rw [e_I68n1]; exact (pk_un (by decide)).trans K_I_61
        have K_I68n1_60 : I68n1 60 = (nI (b + i)) := by rw [e_I68n1]; exact pk_us
        clear M_h FR_h FI_I e_I68n1 frh68n1 K_I_60 K_I_61
        refine WX.s1 rfl rfl ?_
        exact WX.ret1 rfl (k1 n_10 h68n1 I68n1 FR_h68n1 M_h68n1 FI_I68n1 K_I68n1_60)
      | succ t ih =>
        intro i ht
        refine WX.s1 rfl rfl ?_
        refine WX.s1 rfl rfl ?_
        refine WX.icmp rfl (fun c_21 => absurd c_21 (fun zz_ => absurd ((nI_leI (a := c) (b := i) (by omega) (by omega)).mp zz_) (Nat.not_le.mpr (by omega)))) (fun c_21 => ?_)
        clear c_21
        refine WX.s1 rfl rfl ?_
        refine WX.s1 rfl rfl ?_
        refine WX.mget rfl hm M_h rfl ?_
        refine WX.s1 rfl rfl ?_
        refine WX.mgetK (x := (nI b)) rfl hm M_h rfl K_I_60 ?_
        refine WX.s1 rfl rfl ?_
        refine WX.s1 (S' := [.int ((nI b) + (nI i)), .ref (m + 1), .int (nI (rbN l b i))]) rfl rfl ?_
        rw [show ((nI b) + (nI i)) = nI (b + i) from nI_add b i]
        refine WX.s1 rfl rfl ?_
        refine WX.div rfl (by decide) ?_
        rw [show nI (b + i) / 8 = nI ((b + i) / 8) from pk_div (by omega) (by decide) (by decide)]
        refine WX.mald (c := 1) rfl hm M_h (by decide) (by decide) (by decide) (by decide) (vp_in_nI (N := 8000) (by omega) (by decide)) ?_
        rw [nI_clamp (by omega), hF.2 ((b + i) / 8) (by omega)]
        refine WX.s1 rfl rfl ?_
        refine WX.mgetK (x := (nI b)) rfl hm M_h rfl K_I_60 ?_
        refine WX.s1 rfl rfl ?_
        refine WX.s1 (S' := [.int ((nI b) + (nI i)), .int (nI ((l).getD ((b + i) / 8) 0)), .int (nI (rbN l b i))]) rfl rfl ?_
        rw [show ((nI b) + (nI i)) = nI (b + i) from nI_add b i]
        refine WX.s1 rfl rfl ?_
        refine WX.div rfl (by decide) ?_
        rw [show nI (b + i) - nI (b + i) / 8 * 8 = nI ((b + i) % 8) from pk_rem (by omega) (by decide) (by decide)]
        refine WX.s1 (S' := [.int ((nI ((l).getD ((b + i) / 8) 0)) >>> ((nI ((b + i) % 8)) &&& 31)), .int (nI (rbN l b i))]) rfl rfl ?_
        refine WX.s1 rfl rfl ?_
        refine WX.s1 (S' := [.int (((nI ((l).getD ((b + i) / 8) 0)) >>> ((nI ((b + i) % 8)) &&& 31)) &&& 1), .int (nI (rbN l b i))]) rfl rfl ?_
        refine WX.s1 rfl rfl ?_
        refine WX.s1 (S' := [.int ((((nI ((l).getD ((b + i) / 8) 0)) >>> ((nI ((b + i) % 8)) &&& 31)) &&& 1) <<< ((nI i) &&& 31)), .int (nI (rbN l b i))]) rfl rfl ?_
        refine WX.s1 (S' := [.int ((nI (rbN l b i)) ||| ((((nI ((l).getD ((b + i) / 8) 0)) >>> ((nI ((b + i) % 8)) &&& 31)) &&& 1) <<< ((nI i) &&& 31)))]) rfl rfl ?_
        rw [bt_st (hl _) (show i < 30 by omega)]
        refine WX.s1 (L' := [(0, .ref m), (1, .int (nI c)), (2, .int (nI (rbN l b (i + 1)))), (3, .int (nI i))]) rfl rfl ?_
        refine WX.s1 (L' := [(0, .ref m), (1, .int (nI c)), (2, .int (nI (rbN l b (i + 1)))), (3, .int ((nI i) + 1))]) rfl rfl ?_
        rw [show ((nI i) + 1) = nI (i + 1) from nI_add i 1]
        refine WX.s1 rfl rfl ?_
        exact ih (i + 1) (by omega)
    exact lp c 0 (by omega)
  · skip
    have n_10 : E < (b + c) := Nat.lt_of_not_le (fun zz_ => c_10 ((nI_leI (a := b + c) (b := E) (by omega) (by omega)).mpr zz_))
    refine WX.s1 rfl rfl ?_
    exact WX.ret1 rfl (k0 n_10)
set_option maxRecDepth 20000 in
theorem m_takeD {d n s : Nat} {h : Nat → aE} {m : Nat} {I : Nat → Int32} {AR : Nat → Nat → Int32} {LN : Nat → Int64} {l : List Nat} {c E : Nat} (hm : m + 43 < n) (M_h : MAt h m I AR LN) (hF : InIs I AR l) (hl : ∀ i, (l).getD i 0 < 256) (hle : (l).length ≤ 8000) (hE : E ≤ 8 * (l).length) (hcE : c ≤ E) (hc : c < 30) (K_I_61 : I 61 = (nI E)) {Ψ : Option Value → aH → Prop} (kk : ∀ h' I', Fr h h' (inM m) → MAt h' m I' AR LN → Fi I I' (fun f => f = 61) → I' 61 = nI (E - c) → Ψ (some (.int (nI (rbN l (E - c) c)))) (n, s, h')) : WO (mM (d + 1)) 217 [.ref m, .int (nI c)] (n, s, h) Ψ := by
  refine WO.of (Nat.le_of_ble_eq_true rfl) ?_
  have FR_h : Fr h h (inM m) := Fr.rf
  have FI_I : Fi I I (fun f => f = 61) := Fi.rf
  show WX (lk tX12_takeDown) (mM d) Ψ 0 [(0, .ref m), (1, .int (nI c))] [] (n, s, h)
  refine WX.s1 rfl rfl ?_
  refine WX.s1 rfl rfl ?_
  refine WX.mgetK (x := (nI E)) rfl hm M_h rfl K_I_61 ?_
  refine WX.s1 rfl rfl ?_
  refine WX.s1 (S' := [.int ((nI E) - (nI c)), .ref m]) rfl rfl ?_
  rw [nI_subN hcE]
  refine WX.mput rfl hm M_h (rfl) (by decide) (fun _ => rfl) (fun h7n1 I7n1 e_I7n1 M_h7n1 frh7n1 => ?_)
  have FR_h7n1 := (FR_h).ztr frh7n1
  have FI_I7n1 : Fi I I7n1 (fun f => f = 61) := (FI_I).zup e_I7n1 (by first | exact rfl | decide | omega)
  have K_I7n1_61 : I7n1 61 = (nI (E - c)) := by rw [e_I7n1]; exact pk_us
  clear M_h FR_h FI_I e_I7n1 frh7n1 K_I_61
  have hF2 : InIs I7n1 AR l := ⟨(FI_I7n1 1 (by decide)).trans hF.1, hF.2⟩
  refine WX.s1 rfl rfl ?_
  refine WX.s1 (L' := [(0, .ref m), (1, .int (nI c)), (2, .int 0)]) rfl rfl ?_
  refine WX.s1 rfl rfl ?_
  refine WX.s1 (L' := [(0, .ref m), (1, .int (nI c)), (2, .int 0), (3, .int 0)]) rfl rfl ?_
  have lp : ∀ (t i : Nat), i + t = c → WX (lk tX12_takeDown) (mM d) Ψ 14 [(0, .ref m), (1, .int (nI c)), (2, .int (nI (rbN l (E - c) i))), (3, .int (nI i))] [] (n, s, h7n1) := by
    intro t
    induction t with
    | zero =>
      intro i ht
      obtain rfl : i = c := by omega
      refine WX.s1 rfl rfl ?_
      refine WX.s1 rfl rfl ?_
      refine WX.icmp rfl (fun c_16 => ?_) (fun c_16 => absurd ((nI_leI (a := i) (b := i) (by omega) (by omega)).mpr (by omega)) c_16)
      clear c_16
      refine WX.s1 rfl rfl ?_
      exact WX.ret1 rfl (kk h7n1 I7n1 FR_h7n1 M_h7n1 FI_I7n1 K_I7n1_61)
    | succ t ih =>
      intro i ht
      refine WX.s1 rfl rfl ?_
      refine WX.s1 rfl rfl ?_
      refine WX.icmp rfl (fun c_16 => absurd c_16 (fun zz_ => absurd ((nI_leI (a := c) (b := i) (by omega) (by omega)).mp zz_) (Nat.not_le.mpr (by omega)))) (fun c_16 => ?_)
      clear c_16
      refine WX.s1 rfl rfl ?_
      refine WX.s1 rfl rfl ?_
      refine WX.mget rfl hm M_h7n1 rfl ?_
      refine WX.s1 rfl rfl ?_
      refine WX.mgetK (x := (nI (E - c))) rfl hm M_h7n1 rfl K_I7n1_61 ?_
      refine WX.s1 rfl rfl ?_
      refine WX.s1 (S' := [.int ((nI (E - c)) + (nI i)), .ref (m + 1), .int (nI (rbN l (E - c) i))]) rfl rfl ?_
      rw [show ((nI (E - c)) + (nI i)) = nI (E - c + i) from nI_add (E - c) i]
      refine WX.s1 rfl rfl ?_
      refine WX.div rfl (by decide) ?_
      rw [show nI ((E - c) + i) / 8 = nI (((E - c) + i) / 8) from pk_div (by omega) (by decide) (by decide)]
      refine WX.mald (c := 1) rfl hm M_h7n1 (by decide) (by decide) (by decide) (by decide) (vp_in_nI (N := 8000) (by omega) (by decide)) ?_
      rw [nI_clamp (by omega), hF.2 (((E - c) + i) / 8) (by omega)]
      refine WX.s1 rfl rfl ?_
      refine WX.mgetK (x := (nI (E - c))) rfl hm M_h7n1 rfl K_I7n1_61 ?_
      refine WX.s1 rfl rfl ?_
      refine WX.s1 (S' := [.int ((nI (E - c)) + (nI i)), .int (nI ((l).getD (((E - c) + i) / 8) 0)), .int (nI (rbN l (E - c) i))]) rfl rfl ?_
      rw [show ((nI (E - c)) + (nI i)) = nI (E - c + i) from nI_add (E - c) i]
      refine WX.s1 rfl rfl ?_
      refine WX.div rfl (by decide) ?_
      rw [show nI ((E - c) + i) - nI ((E - c) + i) / 8 * 8 = nI (((E - c) + i) % 8) from pk_rem (by omega) (by decide) (by decide)]
      refine WX.s1 (S' := [.int ((nI ((l).getD (((E - c) + i) / 8) 0)) >>> ((nI (((E - c) + i) % 8)) &&& 31)), .int (nI (rbN l (E - c) i))]) rfl rfl ?_
      refine WX.s1 rfl rfl ?_
      refine WX.s1 (S' := [.int (((nI ((l).getD (((E - c) + i) / 8) 0)) >>> ((nI (((E - c) + i) % 8)) &&& 31)) &&& 1), .int (nI (rbN l (E - c) i))]) rfl rfl ?_
      refine WX.s1 rfl rfl ?_
      refine WX.s1 (S' := [.int ((((nI ((l).getD (((E - c) + i) / 8) 0)) >>> ((nI (((E - c) + i) % 8)) &&& 31)) &&& 1) <<< ((nI i) &&& 31)), .int (nI (rbN l (E - c) i))]) rfl rfl ?_
      refine WX.s1 (S' := [.int ((nI (rbN l (E - c) i)) ||| ((((nI ((l).getD (((E - c) + i) / 8) 0)) >>> ((nI (((E - c) + i) % 8)) &&& 31)) &&& 1) <<< ((nI i) &&& 31)))]) rfl rfl ?_
      rw [bt_st (hl _) (show i < 30 by omega)]
      refine WX.s1 (L' := [(0, .ref m), (1, .int (nI c)), (2, .int (nI (rbN l (E - c) (i + 1)))), (3, .int (nI i))]) rfl rfl ?_
      refine WX.s1 (L' := [(0, .ref m), (1, .int (nI c)), (2, .int (nI (rbN l (E - c) (i + 1)))), (3, .int ((nI i) + 1))]) rfl rfl ?_
      rw [show ((nI i) + 1) = nI (i + 1) from nI_add i 1]
      refine WX.s1 rfl rfl ?_
      exact ih (i + 1) (by omega)
  exact lp c 0 (by omega)
