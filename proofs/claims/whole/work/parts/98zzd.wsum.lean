/-! THE WIDE SUM, pure -/
def rtL (x : Int64) (k : Int32) : Int64 := (x <<< ((k).toInt64 &&& 63)) ||| ((x).toUInt64 >>> ((64 - k).toInt64.toUInt64 &&& Int64.toUInt64 63)).toInt64
def lnS (x w : Int64) : Int64 := rtL (x + w * (-4417276706812531889)) 31 * (-7046029288634856825)
def jnL (h x : Int64) : Int64 := (h ^^^ (rtL (x * (-4417276706812531889)) 31 * (-7046029288634856825))) * (-7046029288634856825) + (-8796714831421723037)
def wdN (l : List Nat) (a b : Nat) : Nat := sumN (fun i => (l).getD (a + i) 0 * 256 ^ i) b
def wdL (l : List Nat) (a b : Nat) : Int64 := lN (wdN l a b)
def lnA (l : List Nat) : Nat → Int64 × Int64 × Int64 × Int64
  | 0 => (6983438078262162902, (-4417276706812531889), 0, 7046029288634856825)
  | j + 1 => (lnS (lnA l j).1 (wdL l (32 * j) 8), lnS (lnA l j).2.1 (wdL l (32 * j + 8) 8), lnS (lnA l j).2.2.1 (wdL l (32 * j + 16) 8), lnS (lnA l j).2.2.2 (wdL l (32 * j + 24) 8))
def lnH (p : Int64 × Int64 × Int64 × Int64) : Int64 := jnL (jnL (jnL (jnL (rtL p.1 1 + rtL p.2.1 7 + rtL p.2.2.1 12 + rtL p.2.2.2 18) p.1) p.2.1) p.2.2.1) p.2.2.2
def sm8 (h w : Int64) : Int64 := rtL (h ^^^ (rtL (w * (-4417276706812531889)) 31 * (-7046029288634856825))) 27 * (-7046029288634856825) + (-8796714831421723037)
def sm4 (h w : Int64) : Int64 := rtL (h ^^^ (w * (-7046029288634856825))) 23 * (-4417276706812531889) + 1609587929392839161
def sm1 (h w : Int64) : Int64 := rtL (h ^^^ (w * 2870177450012600261)) 11 * (-7046029288634856825)
def e8L (l : List Nat) (a : Nat) (h : Int64) : Nat → Int64
  | 0 => h
  | j + 1 => sm8 (e8L l a h j) (wdL l (a + 8 * j) 8)
def e1L (l : List Nat) (a : Nat) (h : Int64) : Nat → Int64
  | 0 => h
  | j + 1 => sm1 (e1L l a h j) (nI ((l).getD (a + j) 0)).toInt64
def xsL (h : Int64) (k : Int32) : Int64 := h ^^^ ((h).toUInt64 >>> ((k).toInt64.toUInt64 &&& Int64.toUInt64 63)).toInt64
def fnL (h : Int64) : Int64 := xsL (xsL (xsL h 33 * (-4417276706812531889)) 29 * 1609587929392839161) 32
def h0L (l : List Nat) : Int64 := (if (l).length / 32 = 0 then 2870177450012600261 else lnH (lnA l ((l).length / 32))) + (nI (l).length).toInt64
def h8L (l : List Nat) : Int64 := e8L l (32 * ((l).length / 32)) (h0L l) ((l).length % 32 / 8)
def a8N (l : List Nat) : Nat := 32 * ((l).length / 32) + 8 * ((l).length % 32 / 8)
def h4L (l : List Nat) : Int64 := if a8N l + 4 ≤ (l).length then sm4 (h8L l) (wdL l (a8N l) 4) else h8L l
def a4N (l : List Nat) : Nat := if a8N l + 4 ≤ (l).length then a8N l + 4 else a8N l
def wsF (l : List Nat) : Int64 := fnL (e1L l (a4N l) (h4L l) ((l).length - a4N l))
theorem wd_lt {l : List Nat} (hl : ∀ i, (l).getD i 0 < 256) (a : Nat) : ∀ b, wdN l a b < 2 ^ (8 * b)
  | 0 => show 0 < 2 ^ (8 * 0) from Nat.pow_pos (by decide)
  | b + 1 => by
    have := wd_lt hl a b
    show wdN l a b + (l).getD (a + b) 0 * 256 ^ b < _
    rw [p256]
    have h2 : 2 ^ (8 * (b + 1)) = 256 * 2 ^ (8 * b) := by rw [show 8 * (b + 1) = 8 * b + 8 by omega, Nat.pow_add]; omega
    rw [h2]
    have := hl (a + b)
    have h3 : (l).getD (a + b) 0 * 2 ^ (8 * b) ≤ 255 * 2 ^ (8 * b) := Nat.mul_le_mul_right _ (by omega)
    omega
theorem wd_hd (l : List Nat) (a b : Nat) : wdN l a (b + 1) = (l).getD a 0 + wdN l (a + 1) b * 256 := by
  unfold wdN
  rw [show b + 1 = 1 + b by omega, sumN_split]
  show (0 + (l).getD (a + 0) 0 * 256 ^ 0) + _ = _
  rw [Nat.add_zero a]
  rw [← sumN_mul]
  rw [show (fun x => (l).getD (a + (1 + x)) 0 * 256 ^ (1 + x)) = (fun s => (l).getD (a + 1 + s) 0 * 256 ^ s * 256) from funext (fun x => by rw [show a + (1 + x) = a + 1 + x by omega, Nat.pow_add, Nat.mul_assoc, Nat.mul_comm (256 ^ 1)])]
  omega
theorem wd_up {l : List Nat} (hl : ∀ i, (l).getD i 0 < 256) {a i : Nat} (hi : i < 8) : wdL l a i ||| ((nI ((l).getD (a + i) 0)).toInt64 <<< ((nI (8 * i)).toInt64 &&& 63)) = wdL l a (i + 1) := by
  have hc := hl (a + i)
  have h1 := wd_lt hl a i
  have hp : 2 ^ (8 * i) ≤ 2 ^ 56 := Nat.pow_le_pow_right (by decide) (by omega)
  have h3 : (l).getD (a + i) 0 * 2 ^ (8 * i) ≤ 255 * 2 ^ (8 * i) := Nat.mul_le_mul_right _ (by omega)
  rw [nI_l (by omega), wb_shl _ (by omega)]
  unfold wdL
  rw [wb_or (by omega) (by omega), or_add h1]
  show lN (wdN l a i + (l).getD (a + i) 0 * 2 ^ (8 * i)) = lN (wdN l a i + (l).getD (a + i) 0 * 256 ^ i)
  rw [p256]
theorem wd_dn {l : List Nat} (hl : ∀ i, (l).getD i 0 < 256) {a b : Nat} (hb : b < 8) : (wdL l (a + 1) b <<< ((8 : Int32).toInt64 &&& 63)) ||| (nI ((l).getD a 0)).toInt64 = wdL l a (b + 1) := by
  have hc := hl a
  have h1 := wd_lt hl (a + 1) b
  have hp : 2 ^ (8 * b) ≤ 2 ^ 56 := Nat.pow_le_pow_right (by decide) (by omega)
  unfold wdL
  rw [show (8 : Int32) = nI 8 from rfl, wb_shl _ (by decide), nI_l (by omega), wb_or (by omega) (by omega), Nat.or_comm, show 2 ^ 8 = 256 from rfl]
  rw [wd_hd]
  exact congrArg lN (or_add (r := 8) (by omega))
theorem row_lt {h : Nat → aE} {k N : Nat} {l : List Nat} {ho : Int64} {hd : Int32} (r : RowIs h k N (some l) ho hd) (i : Nat) : (l).getD i 0 < 256 := by
  obtain ⟨g, u, sp, -, -, -, -, q⟩ := r
  by_cases z : i < (l).length
  · exact (q i z).1
  · rw [List.getD_eq_getElem?_getD, List.getElem?_eq_none (by omega)]
    decide
theorem row_le {h : Nat → aE} {k N : Nat} {l : List Nat} {ho : Int64} {hd : Int32} (r : RowIs h k N (some l) ho hd) : (l).length ≤ N := by
  obtain ⟨g, u, sp, -, q1, -, q2, -⟩ := r
  rw [← q2]; exact q1
theorem row_obj {h : Nat → aE} {k N : Nat} {l : List Nat} {ho : Int64} {hd : Int32} (r : RowIs h k N (some l) ho hd) : h k = .inr (7, [.ref (k + 1), .int (nI (l).length), .int 0, .long ho, .int hd]) := by
  obtain ⟨g, u, sp, q0, -, q1, q2, -⟩ := r
  rw [q0.1, q1, q2]
/-- a byte of a row, or -1 -/
theorem x_at1 {d n s : Nat} {h : Nat → aE} {k N i : Nat} {l : List Nat} {ho : Int64} {hd : Int32} (hk : k + 1 < n) (hN : N < 2 ^ 31) (hi : i < 2 ^ 31) (r : RowIs h k N (some l) ho hd) {Ψ : Option Value → aH → Prop} (kk : ∀ v, (i < (l).length → v = nI ((l).getD i 0)) → ((l).length ≤ i → v = -1) → Ψ (some (.int v)) (n, s, h)) : WO (mM (d + 1)) 93 [.ref k, .int (nI i)] (n, s, h) Ψ := by
  have hle := row_le r
  obtain ⟨g, u, sp, q0, q1, q2, q3, q4⟩ := r
  subst q3
  refine w_at hk q0 q1 hN (fun j e hj => ?_) (fun z => ?_)
  · have : i = j := (nI_eq hi (by omega)).mp e
    subst this
    refine kk _ (fun _ => ?_) (fun z => absurd hj (by omega))
    rw [(q4 i hj).2]
    exact (sb_byte _ (q4 i hj).1).1
  · refine kk _ (fun w => ?_) (fun _ => rfl)
    rcases z with z | z
    · exact absurd z (nI_nn hi)
    · exact absurd ((nI_leI (by omega) hi).mp z) (by omega)
theorem at_mx {l : List Nat} {i : Nat} {v : Int32} (hl : (l).getD i 0 < 256) (h1 : i < (l).length → v = nI ((l).getD i 0)) (h2 : (l).length ≤ i → v = -1) : (if v < 0 then (0 : Int32) else v) = nI ((l).getD i 0) := by
  by_cases z : i < (l).length
  · rw [h1 z]; exact nI_max0 (by omega)
  · rw [h2 (by omega), List.getD_eq_getElem?_getD, List.getElem?_eq_none (by omega)]; rfl
set_option maxRecDepth 20000 in
theorem x_num {d n s : Nat} {h : Nat → aE} {l : List Nat} {ho : Int64} {hd : Int32} {a b : Nat} (hn : 190 ≤ n) (ha : a < 2 ^ 30) (hb : b ≤ 8)  (P_h_in : RowIs h 1 8000 (some l) ho hd) {Ψ : Option Value → aH → Prop} (kk : Ψ (some (.long (wdL l a b))) (n, s, h)) : WO (mM (d + 2)) 94 [.ref 1, .int (nI a), .int (nI b)] (n, s, h) Ψ := by
  refine WO.of (Nat.le_of_ble_eq_true rfl) ?_
  have FR_h : Fr h h (fun j => False) := Fr.rf
  have hl := row_lt P_h_in
  show WX (lk tX7_number) (mM (d + 1)) Ψ 0 [(0, .ref 1), (1, .int (nI a)), (2, .int (nI b))] [] (n, s, h)
  refine WX.s1 rfl rfl ?_
  refine WX.s1 (L' := [(0, .ref 1), (1, .int (nI a)), (2, .int (nI b)), (3, .long 0)]) rfl rfl ?_
  refine WX.s1 rfl rfl ?_
  refine WX.s1 (L' := [(0, .ref 1), (1, .int (nI a)), (2, .int (nI b)), (3, .long 0), (5, .int 0)]) rfl rfl ?_
  have lp : ∀ (t i : Nat), i + t = b → WX (lk tX7_number) (mM (d + 1)) Ψ 5 [(0, .ref 1), (1, .int (nI a)), (2, .int (nI b)), (3, .long (wdL l a i)), (5, .int (nI i))] [] (n, s, h) := by
    intro t
    induction t with
    | zero =>
      intro i ht
      obtain rfl : i = b := by omega
      refine WX.s1 rfl rfl ?_
      refine WX.s1 rfl rfl ?_
      refine WX.icmp rfl (fun c_8 => ?_) (fun c_8 => absurd ((nI_leI (a := i) (b := i) (by omega) (by omega)).mpr (by omega)) c_8)
      clear c_8
      refine WX.s1 rfl rfl ?_
      exact WX.ret2 rfl kk
    | succ t ih =>
      intro i ht
      refine WX.s1 rfl rfl ?_
      refine WX.s1 rfl rfl ?_
      refine WX.icmp rfl (fun c_8 => absurd c_8 (fun zz_ => absurd ((nI_leI (a := b) (b := i) (by omega) (by omega)).mp zz_) (Nat.not_le.mpr (by omega)))) (fun c_8 => ?_)
      clear c_8
      refine WX.s1 rfl rfl ?_
      refine WX.s1 rfl rfl ?_
      refine WX.s1 rfl rfl ?_
      refine WX.s1 rfl rfl ?_
      refine WX.s1 (S' := [.int ((nI a) + (nI i)), .ref 1, .long (wdL l a i)]) rfl rfl ?_
      rw [show ((nI a) + (nI i)) = nI (a + i) from nI_add a i]
      refine WX.callC (vs := [.ref 1, .int (nI (a + i))]) rfl rfl rfl (Nat.le_of_ble_eq_true rfl) ((P_h_in).rcv (ltN hn (by decide))) ?_
      refine x_at1 (d := d) (by omega) (by decide) (by omega) P_h_in (fun v hv1 hv2 => ?_)
      show WX _ _ _ 20 [(0, .ref 1), (1, .int (nI a)), (2, .int (nI b)), (3, .long (wdL l a i)), (5, .int (nI i))] [.int v, .long (wdL l a i)] (n, s, h)
      refine WX.s1 rfl rfl ?_
      refine WX.s1 (S' := [.int (if v < 0 then 0 else v), .long (wdL l a i)]) rfl rfl ?_
      rw [at_mx (hl (a + i)) hv1 hv2]
      refine WX.s1 (S' := [.long ((nI ((l).getD (a + i) 0)).toInt64), .long (wdL l a i)]) rfl rfl ?_
      refine WX.s1 rfl rfl ?_
      refine WX.s1 rfl rfl ?_
      refine WX.s1 (S' := [.int (8 * (nI i)), .long ((nI ((l).getD (a + i) 0)).toInt64), .long (wdL l a i)]) rfl rfl ?_
      rw [show (8 * (nI i)) = nI (8 * i) from (Int32.ofNat_mul 8 i).symm]
      refine WX.s1 (S' := [.long (((nI ((l).getD (a + i) 0)).toInt64) <<< ((nI (8 * i)).toInt64 &&& 63)), .long (wdL l a i)]) rfl rfl ?_
      refine WX.s1 (S' := [.long ((wdL l a i) ||| (((nI ((l).getD (a + i) 0)).toInt64) <<< ((nI (8 * i)).toInt64 &&& 63)))]) rfl rfl ?_
      rw [wd_up hl (show i < 8 by omega)]
      refine WX.s1 (L' := [(0, .ref 1), (1, .int (nI a)), (2, .int (nI b)), (3, .long (wdL l a (i + 1))), (5, .int (nI i))]) rfl rfl ?_
      refine WX.s1 (L' := [(0, .ref 1), (1, .int (nI a)), (2, .int (nI b)), (3, .long (wdL l a (i + 1))), (5, .int ((nI i) + 1))]) rfl rfl ?_
      rw [show ((nI i) + 1) = nI (i + 1) from nI_add i 1]
      refine WX.s1 rfl rfl ?_
      exact ih (i + 1) (by omega)
  exact lp b 0 (by omega)
set_option maxRecDepth 20000 in
theorem x_rot {d n s : Nat} {h : Nat → aE} {x : Int64} {k : Int32}     {Ψ : Option Value → aH → Prop} (kk : Ψ (some (.long (rtL x k))) (n, s, h)) : WO (mM (d + 1)) 122 [.long x, .int k] (n, s, h) Ψ := by
  refine WO.of (Nat.le_of_ble_eq_true rfl) ?_
  have FR_h : Fr h h (fun j => False) := Fr.rf
  show WX (lk tX10_rotated) (mM d) Ψ 0 [(0, .long x), (2, .int k)] [] (n, s, h)
  refine WX.s1 rfl rfl ?_
  refine WX.s1 rfl rfl ?_
  refine WX.s1 (S' := [.long (x <<< ((k).toInt64 &&& 63))]) rfl rfl ?_
  refine WX.s1 rfl rfl ?_
  refine WX.s1 rfl rfl ?_
  refine WX.s1 rfl rfl ?_
  refine WX.s1 (S' := [.int (64 - k), .long x, .long (x <<< ((k).toInt64 &&& 63))]) rfl rfl ?_
  refine WX.s1 (S' := [.long (((x).toUInt64 >>> ((64 - k).toInt64.toUInt64 &&& Int64.toUInt64 63)).toInt64), .long (x <<< ((k).toInt64 &&& 63))]) rfl rfl ?_
  refine WX.s1 (S' := [.long ((x <<< ((k).toInt64 &&& 63)) ||| (((x).toUInt64 >>> ((64 - k).toInt64.toUInt64 &&& Int64.toUInt64 63)).toInt64))]) rfl rfl ?_
  exact WX.ret2 rfl kk
set_option maxRecDepth 20000 in
theorem m_rot {d n s : Nat} {h : Nat → aE} {x : Int64} {k : Int32}     {Ψ : Option Value → aH → Prop} (kk : Ψ (some (.long (rtL x k))) (n, s, h)) : WO (mM (d + 1)) 210 [.long x, .int k] (n, s, h) Ψ := by
  refine WO.of (Nat.le_of_ble_eq_true rfl) ?_
  have FR_h : Fr h h (fun j => False) := Fr.rf
  show WX (lk tX12_rotated) (mM d) Ψ 0 [(0, .long x), (2, .int k)] [] (n, s, h)
  refine WX.s1 rfl rfl ?_
  refine WX.s1 rfl rfl ?_
  refine WX.s1 (S' := [.long (x <<< ((k).toInt64 &&& 63))]) rfl rfl ?_
  refine WX.s1 rfl rfl ?_
  refine WX.s1 rfl rfl ?_
  refine WX.s1 rfl rfl ?_
  refine WX.s1 (S' := [.int (64 - k), .long x, .long (x <<< ((k).toInt64 &&& 63))]) rfl rfl ?_
  refine WX.s1 (S' := [.long (((x).toUInt64 >>> ((64 - k).toInt64.toUInt64 &&& Int64.toUInt64 63)).toInt64), .long (x <<< ((k).toInt64 &&& 63))]) rfl rfl ?_
  refine WX.s1 (S' := [.long ((x <<< ((k).toInt64 &&& 63)) ||| (((x).toUInt64 >>> ((64 - k).toInt64.toUInt64 &&& Int64.toUInt64 63)).toInt64))]) rfl rfl ?_
  exact WX.ret2 rfl kk
set_option maxRecDepth 20000 in
theorem x_joined {d n s : Nat} {h : Nat → aE} {x y : Int64}     {Ψ : Option Value → aH → Prop} (kk : Ψ (some (.long (jnL x y))) (n, s, h)) : WO (mM (d + 2)) 121 [.long x, .long y] (n, s, h) Ψ := by
  refine WO.of (Nat.le_of_ble_eq_true rfl) ?_
  have FR_h : Fr h h (fun j => False) := Fr.rf
  show WX (lk tX10_joined) (mM (d + 1)) Ψ 0 [(0, .long x), (2, .long y)] [] (n, s, h)
  refine WX.s1 rfl rfl ?_
  refine WX.s1 rfl rfl ?_
  refine WX.s1 rfl rfl ?_
  refine WX.s1 (S' := [.long (y * (-4417276706812531889)), .long x]) rfl rfl ?_
  refine WX.s1 rfl rfl ?_
  refine WX.callC (vs := [.long (y * (-4417276706812531889)), .int 31]) rfl rfl rfl (Nat.le_of_ble_eq_true rfl) rfl ?_
  refine x_rot (d := d)  ?_
  show WX _ _ _ 11 [(0, .long x), (2, .long y)] [.long (rtL (y * (-4417276706812531889)) 31), .long x] (n, s, h)
  refine WX.s1 rfl rfl ?_
  refine WX.s1 (S' := [.long ((rtL (y * (-4417276706812531889)) 31) * (-7046029288634856825)), .long x]) rfl rfl ?_
  refine WX.s1 (S' := [.long (x ^^^ ((rtL (y * (-4417276706812531889)) 31) * (-7046029288634856825)))]) rfl rfl ?_
  refine WX.s1 rfl rfl ?_
  refine WX.s1 (S' := [.long ((x ^^^ ((rtL (y * (-4417276706812531889)) 31) * (-7046029288634856825))) * (-7046029288634856825))]) rfl rfl ?_
  refine WX.s1 rfl rfl ?_
  refine WX.s1 (S' := [.long (((x ^^^ ((rtL (y * (-4417276706812531889)) 31) * (-7046029288634856825))) * (-7046029288634856825)) + (-8796714831421723037))]) rfl rfl ?_
  exact WX.ret2 rfl kk
set_option maxRecDepth 20000 in
theorem x_lanes {d n s : Nat} {h : Nat → aE} {l : List Nat} {ho : Int64} {hd : Int32} {w : Nat} (hn : 190 ≤ n) (hw : 32 * w ≤ (l).length) (F_h_1 : h 1 = .inr (7, [.ref 2, .int (nI (l).length), .int 0, .long ho, .int hd])) (P_h_in : RowIs h 1 8000 (some l) ho hd) {Ψ : Option Value → aH → Prop} (kk : Ψ (some (.long (lnH (lnA l w)))) (n, s, h)) : WO (mM (d + 3)) 120 [.ref 1, .int (nI (32 * w))] (n, s, h) Ψ := by
  refine WO.of (Nat.le_of_ble_eq_true rfl) ?_
  have FR_h : Fr h h (fun j => False) := Fr.rf
  have hle := row_le P_h_in
  show WX (lk tX10_lanes) (mM (d + 2)) Ψ 0 [(0, .ref 1), (1, .int (nI (32 * w)))] [] (n, s, h)
  refine WX.s1 rfl rfl ?_
  refine WX.s1 (L' := [(0, .ref 1), (1, .int (nI (32 * w))), (2, .long 6983438078262162902)]) rfl rfl ?_
  refine WX.s1 rfl rfl ?_
  refine WX.s1 (L' := [(0, .ref 1), (1, .int (nI (32 * w))), (2, .long 6983438078262162902), (4, .long (-4417276706812531889))]) rfl rfl ?_
  refine WX.s1 rfl rfl ?_
  refine WX.s1 (L' := [(0, .ref 1), (1, .int (nI (32 * w))), (2, .long 6983438078262162902), (4, .long (-4417276706812531889)), (6, .long 0)]) rfl rfl ?_
  refine WX.s1 rfl rfl ?_
  refine WX.s1 (L' := [(0, .ref 1), (1, .int (nI (32 * w))), (2, .long 6983438078262162902), (4, .long (-4417276706812531889)), (6, .long 0), (8, .long 7046029288634856825)]) rfl rfl ?_
  refine WX.s1 rfl rfl ?_
  refine WX.s1 (L' := [(0, .ref 1), (1, .int (nI (32 * w))), (2, .long 6983438078262162902), (4, .long (-4417276706812531889)), (6, .long 0), (8, .long 7046029288634856825), (10, .int 0)]) rfl rfl ?_
  have lp : ∀ (t j : Nat), j + t = w → WX (lk tX10_lanes) (mM (d + 2)) Ψ 20 [(0, .ref 1), (1, .int (nI (32 * w))), (2, .long ((lnA l j).1)), (4, .long ((lnA l j).2.1)), (6, .long ((lnA l j).2.2.1)), (8, .long ((lnA l j).2.2.2)), (10, .int (nI (32 * j)))] [] (n, s, h) := by
    intro t
    induction t with
    | zero =>
      intro j ht
      obtain rfl : j = w := by omega
      refine WX.s1 rfl rfl ?_
      refine WX.s1 rfl rfl ?_
      refine WX.icmp rfl (fun c_23 => ?_) (fun c_23 => absurd ((nI_leI (a := 32 * j) (b := 32 * j) (by omega) (by omega)).mpr (by omega)) c_23)
      clear c_23
      refine WX.s1 rfl rfl ?_
      refine WX.s1 rfl rfl ?_
      refine WX.callC (vs := [.long ((lnA l j).1), .int 1]) rfl rfl rfl (Nat.le_of_ble_eq_true rfl) rfl ?_
      refine x_rot (d := d + 1)  ?_
      show WX _ _ _ 148 [(0, .ref 1), (1, .int (nI (32 * j))), (2, .long ((lnA l j).1)), (4, .long ((lnA l j).2.1)), (6, .long ((lnA l j).2.2.1)), (8, .long ((lnA l j).2.2.2)), (10, .int (nI (32 * j)))] [.long (rtL ((lnA l j).1) 1)] (n, s, h)
      refine WX.s1 rfl rfl ?_
      refine WX.s1 rfl rfl ?_
      refine WX.callC (vs := [.long ((lnA l j).2.1), .int 7]) rfl rfl rfl (Nat.le_of_ble_eq_true rfl) rfl ?_
      refine x_rot (d := d + 1)  ?_
      show WX _ _ _ 155 [(0, .ref 1), (1, .int (nI (32 * j))), (2, .long ((lnA l j).1)), (4, .long ((lnA l j).2.1)), (6, .long ((lnA l j).2.2.1)), (8, .long ((lnA l j).2.2.2)), (10, .int (nI (32 * j)))] [.long (rtL ((lnA l j).2.1) 7), .long (rtL ((lnA l j).1) 1)] (n, s, h)
      refine WX.s1 (S' := [.long ((rtL ((lnA l j).1) 1) + (rtL ((lnA l j).2.1) 7))]) rfl rfl ?_
      refine WX.s1 rfl rfl ?_
      refine WX.s1 rfl rfl ?_
      refine WX.callC (vs := [.long ((lnA l j).2.2.1), .int 12]) rfl rfl rfl (Nat.le_of_ble_eq_true rfl) rfl ?_
      refine x_rot (d := d + 1)  ?_
      show WX _ _ _ 163 [(0, .ref 1), (1, .int (nI (32 * j))), (2, .long ((lnA l j).1)), (4, .long ((lnA l j).2.1)), (6, .long ((lnA l j).2.2.1)), (8, .long ((lnA l j).2.2.2)), (10, .int (nI (32 * j)))] [.long (rtL ((lnA l j).2.2.1) 12), .long ((rtL ((lnA l j).1) 1) + (rtL ((lnA l j).2.1) 7))] (n, s, h)
      refine WX.s1 (S' := [.long (((rtL ((lnA l j).1) 1) + (rtL ((lnA l j).2.1) 7)) + (rtL ((lnA l j).2.2.1) 12))]) rfl rfl ?_
      refine WX.s1 rfl rfl ?_
      refine WX.s1 rfl rfl ?_
      refine WX.callC (vs := [.long ((lnA l j).2.2.2), .int 18]) rfl rfl rfl (Nat.le_of_ble_eq_true rfl) rfl ?_
      refine x_rot (d := d + 1)  ?_
      show WX _ _ _ 171 [(0, .ref 1), (1, .int (nI (32 * j))), (2, .long ((lnA l j).1)), (4, .long ((lnA l j).2.1)), (6, .long ((lnA l j).2.2.1)), (8, .long ((lnA l j).2.2.2)), (10, .int (nI (32 * j)))] [.long (rtL ((lnA l j).2.2.2) 18), .long (((rtL ((lnA l j).1) 1) + (rtL ((lnA l j).2.1) 7)) + (rtL ((lnA l j).2.2.1) 12))] (n, s, h)
      refine WX.s1 (S' := [.long ((((rtL ((lnA l j).1) 1) + (rtL ((lnA l j).2.1) 7)) + (rtL ((lnA l j).2.2.1) 12)) + (rtL ((lnA l j).2.2.2) 18))]) rfl rfl ?_
      refine WX.s1 (L' := [(0, .ref 1), (1, .int (nI (32 * j))), (2, .long ((lnA l j).1)), (4, .long ((lnA l j).2.1)), (6, .long ((lnA l j).2.2.1)), (8, .long ((lnA l j).2.2.2)), (10, .long ((((rtL ((lnA l j).1) 1) + (rtL ((lnA l j).2.1) 7)) + (rtL ((lnA l j).2.2.1) 12)) + (rtL ((lnA l j).2.2.2) 18)))]) rfl rfl ?_
      refine WX.s1 rfl rfl ?_
      refine WX.s1 rfl rfl ?_
      refine WX.callC (vs := [.long ((((rtL ((lnA l j).1) 1) + (rtL ((lnA l j).2.1) 7)) + (rtL ((lnA l j).2.2.1) 12)) + (rtL ((lnA l j).2.2.2) 18)), .long ((lnA l j).1)]) rfl rfl rfl (Nat.le_of_ble_eq_true rfl) rfl ?_
      refine x_joined (d := d)  ?_
      show WX _ _ _ 180 [(0, .ref 1), (1, .int (nI (32 * j))), (2, .long ((lnA l j).1)), (4, .long ((lnA l j).2.1)), (6, .long ((lnA l j).2.2.1)), (8, .long ((lnA l j).2.2.2)), (10, .long ((((rtL ((lnA l j).1) 1) + (rtL ((lnA l j).2.1) 7)) + (rtL ((lnA l j).2.2.1) 12)) + (rtL ((lnA l j).2.2.2) 18)))] [.long (jnL ((((rtL ((lnA l j).1) 1) + (rtL ((lnA l j).2.1) 7)) + (rtL ((lnA l j).2.2.1) 12)) + (rtL ((lnA l j).2.2.2) 18)) ((lnA l j).1))] (n, s, h)
      refine WX.s1 rfl rfl ?_
      refine WX.callC (vs := [.long (jnL ((((rtL ((lnA l j).1) 1) + (rtL ((lnA l j).2.1) 7)) + (rtL ((lnA l j).2.2.1) 12)) + (rtL ((lnA l j).2.2.2) 18)) ((lnA l j).1)), .long ((lnA l j).2.1)]) rfl rfl rfl (Nat.le_of_ble_eq_true rfl) rfl ?_
      refine x_joined (d := d)  ?_
      show WX _ _ _ 185 [(0, .ref 1), (1, .int (nI (32 * j))), (2, .long ((lnA l j).1)), (4, .long ((lnA l j).2.1)), (6, .long ((lnA l j).2.2.1)), (8, .long ((lnA l j).2.2.2)), (10, .long ((((rtL ((lnA l j).1) 1) + (rtL ((lnA l j).2.1) 7)) + (rtL ((lnA l j).2.2.1) 12)) + (rtL ((lnA l j).2.2.2) 18)))] [.long (jnL (jnL ((((rtL ((lnA l j).1) 1) + (rtL ((lnA l j).2.1) 7)) + (rtL ((lnA l j).2.2.1) 12)) + (rtL ((lnA l j).2.2.2) 18)) ((lnA l j).1)) ((lnA l j).2.1))] (n, s, h)
      refine WX.s1 rfl rfl ?_
      refine WX.callC (vs := [.long (jnL (jnL ((((rtL ((lnA l j).1) 1) + (rtL ((lnA l j).2.1) 7)) + (rtL ((lnA l j).2.2.1) 12)) + (rtL ((lnA l j).2.2.2) 18)) ((lnA l j).1)) ((lnA l j).2.1)), .long ((lnA l j).2.2.1)]) rfl rfl rfl (Nat.le_of_ble_eq_true rfl) rfl ?_
      refine x_joined (d := d)  ?_
      show WX _ _ _ 190 [(0, .ref 1), (1, .int (nI (32 * j))), (2, .long ((lnA l j).1)), (4, .long ((lnA l j).2.1)), (6, .long ((lnA l j).2.2.1)), (8, .long ((lnA l j).2.2.2)), (10, .long ((((rtL ((lnA l j).1) 1) + (rtL ((lnA l j).2.1) 7)) + (rtL ((lnA l j).2.2.1) 12)) + (rtL ((lnA l j).2.2.2) 18)))] [.long (jnL (jnL (jnL ((((rtL ((lnA l j).1) 1) + (rtL ((lnA l j).2.1) 7)) + (rtL ((lnA l j).2.2.1) 12)) + (rtL ((lnA l j).2.2.2) 18)) ((lnA l j).1)) ((lnA l j).2.1)) ((lnA l j).2.2.1))] (n, s, h)
      refine WX.s1 rfl rfl ?_
      refine WX.callC (vs := [.long (jnL (jnL (jnL ((((rtL ((lnA l j).1) 1) + (rtL ((lnA l j).2.1) 7)) + (rtL ((lnA l j).2.2.1) 12)) + (rtL ((lnA l j).2.2.2) 18)) ((lnA l j).1)) ((lnA l j).2.1)) ((lnA l j).2.2.1)), .long ((lnA l j).2.2.2)]) rfl rfl rfl (Nat.le_of_ble_eq_true rfl) rfl ?_
      refine x_joined (d := d)  ?_
      show WX _ _ _ 195 [(0, .ref 1), (1, .int (nI (32 * j))), (2, .long ((lnA l j).1)), (4, .long ((lnA l j).2.1)), (6, .long ((lnA l j).2.2.1)), (8, .long ((lnA l j).2.2.2)), (10, .long ((((rtL ((lnA l j).1) 1) + (rtL ((lnA l j).2.1) 7)) + (rtL ((lnA l j).2.2.1) 12)) + (rtL ((lnA l j).2.2.2) 18)))] [.long (jnL (jnL (jnL (jnL ((((rtL ((lnA l j).1) 1) + (rtL ((lnA l j).2.1) 7)) + (rtL ((lnA l j).2.2.1) 12)) + (rtL ((lnA l j).2.2.2) 18)) ((lnA l j).1)) ((lnA l j).2.1)) ((lnA l j).2.2.1)) ((lnA l j).2.2.2))] (n, s, h)
      exact WX.ret2 rfl kk
    | succ t ih =>
      intro j ht
      refine WX.s1 rfl rfl ?_
      refine WX.s1 rfl rfl ?_
      refine WX.icmp rfl (fun c_23 => absurd c_23 (fun zz_ => absurd ((nI_leI (a := 32 * w) (b := 32 * j) (by omega) (by omega)).mp zz_) (Nat.not_le.mpr (by omega)))) (fun c_23 => ?_)
      clear c_23
      refine WX.s1 rfl rfl ?_
      refine WX.s1 rfl rfl ?_
      refine WX.s1 rfl rfl ?_
      refine WX.s1 rfl rfl ?_
      refine WX.callC (vs := [.ref 1, .int (nI (32 * j)), .int 8]) rfl rfl rfl (Nat.le_of_ble_eq_true rfl) ((P_h_in).rcv (ltN hn (by decide))) ?_
      refine x_num (d := d) hn (by omega) (by decide) P_h_in ?_
      show WX _ _ _ 35 [(0, .ref 1), (1, .int (nI (32 * w))), (2, .long ((lnA l j).1)), (4, .long ((lnA l j).2.1)), (6, .long ((lnA l j).2.2.1)), (8, .long ((lnA l j).2.2.2)), (10, .int (nI (32 * j)))] [.long (wdL l (32 * j) 8), .long ((lnA l j).1)] (n, s, h)
      refine WX.s1 rfl rfl ?_
      refine WX.s1 (S' := [.long ((wdL l (32 * j) 8) * (-4417276706812531889)), .long ((lnA l j).1)]) rfl rfl ?_
      refine WX.s1 (S' := [.long (((lnA l j).1) + ((wdL l (32 * j) 8) * (-4417276706812531889)))]) rfl rfl ?_
      refine WX.s1 rfl rfl ?_
      refine WX.callC (vs := [.long (((lnA l j).1) + ((wdL l (32 * j) 8) * (-4417276706812531889))), .int 31]) rfl rfl rfl (Nat.le_of_ble_eq_true rfl) rfl ?_
      refine x_rot (d := d + 1)  ?_
      show WX _ _ _ 45 [(0, .ref 1), (1, .int (nI (32 * w))), (2, .long ((lnA l j).1)), (4, .long ((lnA l j).2.1)), (6, .long ((lnA l j).2.2.1)), (8, .long ((lnA l j).2.2.2)), (10, .int (nI (32 * j)))] [.long (rtL (((lnA l j).1) + ((wdL l (32 * j) 8) * (-4417276706812531889))) 31)] (n, s, h)
      refine WX.s1 rfl rfl ?_
      refine WX.s1 (S' := [.long ((rtL (((lnA l j).1) + ((wdL l (32 * j) 8) * (-4417276706812531889))) 31) * (-7046029288634856825))]) rfl rfl ?_
      refine WX.s1 (L' := [(0, .ref 1), (1, .int (nI (32 * w))), (2, .long ((rtL (((lnA l j).1) + ((wdL l (32 * j) 8) * (-4417276706812531889))) 31) * (-7046029288634856825))), (4, .long ((lnA l j).2.1)), (6, .long ((lnA l j).2.2.1)), (8, .long ((lnA l j).2.2.2)), (10, .int (nI (32 * j)))]) rfl rfl ?_
      refine WX.s1 rfl rfl ?_
      refine WX.s1 rfl rfl ?_
      refine WX.s1 rfl rfl ?_
      refine WX.s1 rfl rfl ?_
      refine WX.s1 (S' := [.int ((nI (32 * j)) + 8), .ref 1, .long ((lnA l j).2.1)]) rfl rfl ?_
      rw [show ((nI (32 * j)) + 8) = nI (32 * j + 8) from nI_add (32 * j) 8]
      refine WX.s1 rfl rfl ?_
      refine WX.callC (vs := [.ref 1, .int (nI (32 * j + 8)), .int 8]) rfl rfl rfl (Nat.le_of_ble_eq_true rfl) ((P_h_in).rcv (ltN hn (by decide))) ?_
      refine x_num (d := d) hn (by omega) (by decide) P_h_in ?_
      show WX _ _ _ 63 [(0, .ref 1), (1, .int (nI (32 * w))), (2, .long ((rtL (((lnA l j).1) + ((wdL l (32 * j) 8) * (-4417276706812531889))) 31) * (-7046029288634856825))), (4, .long ((lnA l j).2.1)), (6, .long ((lnA l j).2.2.1)), (8, .long ((lnA l j).2.2.2)), (10, .int (nI (32 * j)))] [.long (wdL l (32 * j + 8) 8), .long ((lnA l j).2.1)] (n, s, h)
      refine WX.s1 rfl rfl ?_
      refine WX.s1 (S' := [.long ((wdL l (32 * j + 8) 8) * (-4417276706812531889)), .long ((lnA l j).2.1)]) rfl rfl ?_
      refine WX.s1 (S' := [.long (((lnA l j).2.1) + ((wdL l (32 * j + 8) 8) * (-4417276706812531889)))]) rfl rfl ?_
      refine WX.s1 rfl rfl ?_
      refine WX.callC (vs := [.long (((lnA l j).2.1) + ((wdL l (32 * j + 8) 8) * (-4417276706812531889))), .int 31]) rfl rfl rfl (Nat.le_of_ble_eq_true rfl) rfl ?_
      refine x_rot (d := d + 1)  ?_
      show WX _ _ _ 73 [(0, .ref 1), (1, .int (nI (32 * w))), (2, .long ((rtL (((lnA l j).1) + ((wdL l (32 * j) 8) * (-4417276706812531889))) 31) * (-7046029288634856825))), (4, .long ((lnA l j).2.1)), (6, .long ((lnA l j).2.2.1)), (8, .long ((lnA l j).2.2.2)), (10, .int (nI (32 * j)))] [.long (rtL (((lnA l j).2.1) + ((wdL l (32 * j + 8) 8) * (-4417276706812531889))) 31)] (n, s, h)
      refine WX.s1 rfl rfl ?_
      refine WX.s1 (S' := [.long ((rtL (((lnA l j).2.1) + ((wdL l (32 * j + 8) 8) * (-4417276706812531889))) 31) * (-7046029288634856825))]) rfl rfl ?_
      refine WX.s1 (L' := [(0, .ref 1), (1, .int (nI (32 * w))), (2, .long ((rtL (((lnA l j).1) + ((wdL l (32 * j) 8) * (-4417276706812531889))) 31) * (-7046029288634856825))), (4, .long ((rtL (((lnA l j).2.1) + ((wdL l (32 * j + 8) 8) * (-4417276706812531889))) 31) * (-7046029288634856825))), (6, .long ((lnA l j).2.2.1)), (8, .long ((lnA l j).2.2.2)), (10, .int (nI (32 * j)))]) rfl rfl ?_
      refine WX.s1 rfl rfl ?_
      refine WX.s1 rfl rfl ?_
      refine WX.s1 rfl rfl ?_
      refine WX.s1 rfl rfl ?_
      refine WX.s1 (S' := [.int ((nI (32 * j)) + 16), .ref 1, .long ((lnA l j).2.2.1)]) rfl rfl ?_
      rw [show ((nI (32 * j)) + 16) = nI (32 * j + 16) from nI_add (32 * j) 16]
      refine WX.s1 rfl rfl ?_
      refine WX.callC (vs := [.ref 1, .int (nI (32 * j + 16)), .int 8]) rfl rfl rfl (Nat.le_of_ble_eq_true rfl) ((P_h_in).rcv (ltN hn (by decide))) ?_
      refine x_num (d := d) hn (by omega) (by decide) P_h_in ?_
      show WX _ _ _ 92 [(0, .ref 1), (1, .int (nI (32 * w))), (2, .long ((rtL (((lnA l j).1) + ((wdL l (32 * j) 8) * (-4417276706812531889))) 31) * (-7046029288634856825))), (4, .long ((rtL (((lnA l j).2.1) + ((wdL l (32 * j + 8) 8) * (-4417276706812531889))) 31) * (-7046029288634856825))), (6, .long ((lnA l j).2.2.1)), (8, .long ((lnA l j).2.2.2)), (10, .int (nI (32 * j)))] [.long (wdL l (32 * j + 16) 8), .long ((lnA l j).2.2.1)] (n, s, h)
      refine WX.s1 rfl rfl ?_
      refine WX.s1 (S' := [.long ((wdL l (32 * j + 16) 8) * (-4417276706812531889)), .long ((lnA l j).2.2.1)]) rfl rfl ?_
      refine WX.s1 (S' := [.long (((lnA l j).2.2.1) + ((wdL l (32 * j + 16) 8) * (-4417276706812531889)))]) rfl rfl ?_
      refine WX.s1 rfl rfl ?_
      refine WX.callC (vs := [.long (((lnA l j).2.2.1) + ((wdL l (32 * j + 16) 8) * (-4417276706812531889))), .int 31]) rfl rfl rfl (Nat.le_of_ble_eq_true rfl) rfl ?_
      refine x_rot (d := d + 1)  ?_
      show WX _ _ _ 102 [(0, .ref 1), (1, .int (nI (32 * w))), (2, .long ((rtL (((lnA l j).1) + ((wdL l (32 * j) 8) * (-4417276706812531889))) 31) * (-7046029288634856825))), (4, .long ((rtL (((lnA l j).2.1) + ((wdL l (32 * j + 8) 8) * (-4417276706812531889))) 31) * (-7046029288634856825))), (6, .long ((lnA l j).2.2.1)), (8, .long ((lnA l j).2.2.2)), (10, .int (nI (32 * j)))] [.long (rtL (((lnA l j).2.2.1) + ((wdL l (32 * j + 16) 8) * (-4417276706812531889))) 31)] (n, s, h)
      refine WX.s1 rfl rfl ?_
      refine WX.s1 (S' := [.long ((rtL (((lnA l j).2.2.1) + ((wdL l (32 * j + 16) 8) * (-4417276706812531889))) 31) * (-7046029288634856825))]) rfl rfl ?_
      refine WX.s1 (L' := [(0, .ref 1), (1, .int (nI (32 * w))), (2, .long ((rtL (((lnA l j).1) + ((wdL l (32 * j) 8) * (-4417276706812531889))) 31) * (-7046029288634856825))), (4, .long ((rtL (((lnA l j).2.1) + ((wdL l (32 * j + 8) 8) * (-4417276706812531889))) 31) * (-7046029288634856825))), (6, .long ((rtL (((lnA l j).2.2.1) + ((wdL l (32 * j + 16) 8) * (-4417276706812531889))) 31) * (-7046029288634856825))), (8, .long ((lnA l j).2.2.2)), (10, .int (nI (32 * j)))]) rfl rfl ?_
      refine WX.s1 rfl rfl ?_
      refine WX.s1 rfl rfl ?_
      refine WX.s1 rfl rfl ?_
      refine WX.s1 rfl rfl ?_
      refine WX.s1 (S' := [.int ((nI (32 * j)) + 24), .ref 1, .long ((lnA l j).2.2.2)]) rfl rfl ?_
      rw [show ((nI (32 * j)) + 24) = nI (32 * j + 24) from nI_add (32 * j) 24]
      refine WX.s1 rfl rfl ?_
      refine WX.callC (vs := [.ref 1, .int (nI (32 * j + 24)), .int 8]) rfl rfl rfl (Nat.le_of_ble_eq_true rfl) ((P_h_in).rcv (ltN hn (by decide))) ?_
      refine x_num (d := d) hn (by omega) (by decide) P_h_in ?_
      show WX _ _ _ 121 [(0, .ref 1), (1, .int (nI (32 * w))), (2, .long ((rtL (((lnA l j).1) + ((wdL l (32 * j) 8) * (-4417276706812531889))) 31) * (-7046029288634856825))), (4, .long ((rtL (((lnA l j).2.1) + ((wdL l (32 * j + 8) 8) * (-4417276706812531889))) 31) * (-7046029288634856825))), (6, .long ((rtL (((lnA l j).2.2.1) + ((wdL l (32 * j + 16) 8) * (-4417276706812531889))) 31) * (-7046029288634856825))), (8, .long ((lnA l j).2.2.2)), (10, .int (nI (32 * j)))] [.long (wdL l (32 * j + 24) 8), .long ((lnA l j).2.2.2)] (n, s, h)
      refine WX.s1 rfl rfl ?_
      refine WX.s1 (S' := [.long ((wdL l (32 * j + 24) 8) * (-4417276706812531889)), .long ((lnA l j).2.2.2)]) rfl rfl ?_
      refine WX.s1 (S' := [.long (((lnA l j).2.2.2) + ((wdL l (32 * j + 24) 8) * (-4417276706812531889)))]) rfl rfl ?_
      refine WX.s1 rfl rfl ?_
      refine WX.callC (vs := [.long (((lnA l j).2.2.2) + ((wdL l (32 * j + 24) 8) * (-4417276706812531889))), .int 31]) rfl rfl rfl (Nat.le_of_ble_eq_true rfl) rfl ?_
      refine x_rot (d := d + 1)  ?_
      show WX _ _ _ 131 [(0, .ref 1), (1, .int (nI (32 * w))), (2, .long ((rtL (((lnA l j).1) + ((wdL l (32 * j) 8) * (-4417276706812531889))) 31) * (-7046029288634856825))), (4, .long ((rtL (((lnA l j).2.1) + ((wdL l (32 * j + 8) 8) * (-4417276706812531889))) 31) * (-7046029288634856825))), (6, .long ((rtL (((lnA l j).2.2.1) + ((wdL l (32 * j + 16) 8) * (-4417276706812531889))) 31) * (-7046029288634856825))), (8, .long ((lnA l j).2.2.2)), (10, .int (nI (32 * j)))] [.long (rtL (((lnA l j).2.2.2) + ((wdL l (32 * j + 24) 8) * (-4417276706812531889))) 31)] (n, s, h)
      refine WX.s1 rfl rfl ?_
      refine WX.s1 (S' := [.long ((rtL (((lnA l j).2.2.2) + ((wdL l (32 * j + 24) 8) * (-4417276706812531889))) 31) * (-7046029288634856825))]) rfl rfl ?_
      refine WX.s1 (L' := [(0, .ref 1), (1, .int (nI (32 * w))), (2, .long ((rtL (((lnA l j).1) + ((wdL l (32 * j) 8) * (-4417276706812531889))) 31) * (-7046029288634856825))), (4, .long ((rtL (((lnA l j).2.1) + ((wdL l (32 * j + 8) 8) * (-4417276706812531889))) 31) * (-7046029288634856825))), (6, .long ((rtL (((lnA l j).2.2.1) + ((wdL l (32 * j + 16) 8) * (-4417276706812531889))) 31) * (-7046029288634856825))), (8, .long ((rtL (((lnA l j).2.2.2) + ((wdL l (32 * j + 24) 8) * (-4417276706812531889))) 31) * (-7046029288634856825))), (10, .int (nI (32 * j)))]) rfl rfl ?_
      refine WX.s1 (L' := [(0, .ref 1), (1, .int (nI (32 * w))), (2, .long ((rtL (((lnA l j).1) + ((wdL l (32 * j) 8) * (-4417276706812531889))) 31) * (-7046029288634856825))), (4, .long ((rtL (((lnA l j).2.1) + ((wdL l (32 * j + 8) 8) * (-4417276706812531889))) 31) * (-7046029288634856825))), (6, .long ((rtL (((lnA l j).2.2.1) + ((wdL l (32 * j + 16) 8) * (-4417276706812531889))) 31) * (-7046029288634856825))), (8, .long ((rtL (((lnA l j).2.2.2) + ((wdL l (32 * j + 24) 8) * (-4417276706812531889))) 31) * (-7046029288634856825))), (10, .int ((nI (32 * j)) + 32))]) rfl rfl ?_
      rw [show ((nI (32 * j)) + 32) = nI (32 * j + 32) from nI_add (32 * j) 32]
      refine WX.s1 rfl rfl ?_
      rw [show 32 * j + 32 = 32 * (j + 1) by omega]
      exact ih (j + 1) (by omega)
  exact lp w 0 (by omega)
set_option maxRecDepth 20000 in
theorem x_sum {d n s : Nat} {h : Nat → aE} {l : List Nat} {ho : Int64} {hd : Int32} (hn : 190 ≤ n)  (F_h_1 : h 1 = .inr (7, [.ref 2, .int (nI (l).length), .int 0, .long ho, .int hd])) (P_h_in : RowIs h 1 8000 (some l) ho hd) {Ψ : Option Value → aH → Prop} (kk : Ψ (some (.long (wsF l))) (n, s, h)) : WO (mM (d + 4)) 119 [.ref 1] (n, s, h) Ψ := by
  refine WO.of (Nat.le_of_ble_eq_true rfl) ?_
  have FR_h : Fr h h (fun j => False) := Fr.rf
  have hle := row_le P_h_in
  show WX (lk tX10_of) (mM (d + 3)) Ψ 0 [(0, .ref 1)] [] (n, s, h)
  refine WX.s1 rfl rfl ?_
  refine WX.get1 (fs := [.ref 2, .int (nI (l).length), .int 0, .long ho, .int hd]) rfl (ltN hn (by decide)) (F_h_1) rfl ?_
  refine WX.s1 rfl rfl ?_
  refine WX.div rfl (by decide) ?_
  rw [show nI (l).length / 32 = nI ((l).length / 32) from pk_div (by omega) (by decide) (by decide)]
  refine WX.s1 rfl rfl ?_
  refine WX.s1 (S' := [.int ((nI ((l).length / 32)) * 32)]) rfl rfl ?_
  rw [show nI ((l).length / 32) * 32 = nI (32 * ((l).length / 32)) from (Int32.ofNat_mul ((l).length / 32) 32).symm.trans (by rw [Nat.mul_comm]; rfl)]
  refine WX.s1 (L' := [(0, .ref 1), (1, .int (nI (32 * ((l).length / 32))))]) rfl rfl ?_
  have t26 : ∀ x : Int64, x + (nI (l).length).toInt64 = h0L l → WX (lk tX10_of) (mM (d + 3)) Ψ 26 [(0, .ref 1), (1, .int (nI (32 * ((l).length / 32))))] [.long x] (n, s, h) := by
    intro x hx
    refine WX.s1 (L' := [(0, .ref 1), (1, .int (nI (32 * ((l).length / 32)))), (2, .long x)]) rfl rfl ?_
    refine WX.s1 rfl rfl ?_
    refine WX.s1 rfl rfl ?_
    refine WX.get1 (fs := [.ref 2, .int (nI (l).length), .int 0, .long ho, .int hd]) rfl (ltN hn (by decide)) (F_h_1) rfl ?_
    refine WX.s1 (S' := [.long ((nI (l).length).toInt64), .long x]) rfl rfl ?_
    refine WX.s1 (S' := [.long (x + ((nI (l).length).toInt64))]) rfl rfl ?_
    rw [hx]
    refine WX.s1 (L' := [(0, .ref 1), (1, .int (nI (32 * ((l).length / 32)))), (2, .long (h0L l))]) rfl rfl ?_
    refine WX.s1 rfl rfl ?_
    refine WX.s1 (L' := [(0, .ref 1), (1, .int (nI (32 * ((l).length / 32)))), (2, .long (h0L l)), (4, .int (nI (32 * ((l).length / 32))))]) rfl rfl ?_
    have lp : ∀ (t j : Nat), j + t = ((l).length % 32 / 8) → WX (lk tX10_of) (mM (d + 3)) Ψ 38 [(0, .ref 1), (2, .long (e8L l (32 * ((l).length / 32)) (h0L l) j)), (4, .int (nI (32 * ((l).length / 32) + 8 * j)))] [] (n, s, h) := by
      intro t
      induction t with
      | zero =>
        intro j ht
        have ej : j = ((l).length % 32 / 8) := by omega
        rw [ej]
        have hb8 : (l).length < (32 * ((l).length / 32) + 8 * ((l).length % 32 / 8)) + 8 := by omega
        show WX (lk tX10_of) (mM (d + 3)) Ψ 38 [(0, .ref 1), (2, .long (h8L l)), (4, .int (nI (a8N l)))] [] (n, s, h)
        have hb9 : (l).length < a8N l + 8 := hb8
        have hb7 : a8N l ≤ (l).length := by unfold a8N; omega
        refine WX.s1 rfl rfl ?_
        refine WX.s1 rfl rfl ?_
        refine WX.s1 (S' := [.int ((nI (a8N l)) + 8)]) rfl rfl ?_
        rw [show ((nI (a8N l)) + 8) = nI (a8N l + 8) from nI_add (a8N l) 8]
        refine WX.s1 rfl rfl ?_
        refine WX.get1 (fs := [.ref 2, .int (nI (l).length), .int 0, .long ho, .int hd]) rfl (ltN hn (by decide)) (F_h_1) rfl ?_
        refine WX.icmp rfl (fun c_47 => ?_) (fun c_47 => absurd ((nI_ltI (a := (l).length) (b := a8N l + 8) (by omega) (by omega)).mpr (by omega)) c_47)
        clear c_47
        have t137 : WX (lk tX10_of) (mM (d + 3)) Ψ 137 [(0, .ref 1), (2, .long (h4L l)), (4, .int (nI (a4N l)))] [] (n, s, h) := by
          have h4le : a4N l ≤ (l).length := by unfold a4N; split <;> omega
          have lp : ∀ (t j : Nat), j + t = ((l).length - a4N l) → WX (lk tX10_of) (mM (d + 3)) Ψ 137 [(0, .ref 1), (2, .long (e1L l (a4N l) (h4L l) j)), (4, .int (nI (a4N l + j)))] [] (n, s, h) := by
            intro t
            induction t with
            | zero =>
              intro j ht
              obtain rfl : j = ((l).length - a4N l) := by omega
              refine WX.s1 rfl rfl ?_
              refine WX.s1 rfl rfl ?_
              refine WX.get1 (fs := [.ref 2, .int (nI (l).length), .int 0, .long ho, .int hd]) rfl (ltN hn (by decide)) (F_h_1) rfl ?_
              refine WX.icmp rfl (fun c_143 => ?_) (fun c_143 => absurd ((nI_leI (a := (l).length) (b := a4N l + ((l).length - a4N l)) (by omega) (by omega)).mpr (by omega)) c_143)
              clear c_143
              refine WX.s1 rfl rfl ?_
              refine WX.s1 rfl rfl ?_
              refine WX.s1 rfl rfl ?_
              refine WX.s1 (S' := [.long (((e1L l (a4N l) (h4L l) ((l).length - a4N l)).toUInt64 >>> ((33 : Int32).toInt64.toUInt64 &&& Int64.toUInt64 63)).toInt64), .long (e1L l (a4N l) (h4L l) ((l).length - a4N l))]) rfl rfl ?_
              refine WX.s1 (S' := [.long ((e1L l (a4N l) (h4L l) ((l).length - a4N l)) ^^^ (((e1L l (a4N l) (h4L l) ((l).length - a4N l)).toUInt64 >>> ((33 : Int32).toInt64.toUInt64 &&& Int64.toUInt64 63)).toInt64))]) rfl rfl ?_
              refine WX.s1 rfl rfl ?_
              refine WX.s1 (S' := [.long (((e1L l (a4N l) (h4L l) ((l).length - a4N l)) ^^^ (((e1L l (a4N l) (h4L l) ((l).length - a4N l)).toUInt64 >>> ((33 : Int32).toInt64.toUInt64 &&& Int64.toUInt64 63)).toInt64)) * (-4417276706812531889))]) rfl rfl ?_
              refine WX.s1 (L' := [(0, .ref 1), (2, .long (((e1L l (a4N l) (h4L l) ((l).length - a4N l)) ^^^ (((e1L l (a4N l) (h4L l) ((l).length - a4N l)).toUInt64 >>> ((33 : Int32).toInt64.toUInt64 &&& Int64.toUInt64 63)).toInt64)) * (-4417276706812531889))), (4, .int (nI (a4N l + ((l).length - a4N l))))]) rfl rfl ?_
              refine WX.s1 rfl rfl ?_
              refine WX.s1 rfl rfl ?_
              refine WX.s1 rfl rfl ?_
              refine WX.s1 (S' := [.long (((((e1L l (a4N l) (h4L l) ((l).length - a4N l)) ^^^ (((e1L l (a4N l) (h4L l) ((l).length - a4N l)).toUInt64 >>> ((33 : Int32).toInt64.toUInt64 &&& Int64.toUInt64 63)).toInt64)) * (-4417276706812531889)).toUInt64 >>> ((29 : Int32).toInt64.toUInt64 &&& Int64.toUInt64 63)).toInt64), .long (((e1L l (a4N l) (h4L l) ((l).length - a4N l)) ^^^ (((e1L l (a4N l) (h4L l) ((l).length - a4N l)).toUInt64 >>> ((33 : Int32).toInt64.toUInt64 &&& Int64.toUInt64 63)).toInt64)) * (-4417276706812531889))]) rfl rfl ?_
              refine WX.s1 (S' := [.long ((((e1L l (a4N l) (h4L l) ((l).length - a4N l)) ^^^ (((e1L l (a4N l) (h4L l) ((l).length - a4N l)).toUInt64 >>> ((33 : Int32).toInt64.toUInt64 &&& Int64.toUInt64 63)).toInt64)) * (-4417276706812531889)) ^^^ (((((e1L l (a4N l) (h4L l) ((l).length - a4N l)) ^^^ (((e1L l (a4N l) (h4L l) ((l).length - a4N l)).toUInt64 >>> ((33 : Int32).toInt64.toUInt64 &&& Int64.toUInt64 63)).toInt64)) * (-4417276706812531889)).toUInt64 >>> ((29 : Int32).toInt64.toUInt64 &&& Int64.toUInt64 63)).toInt64))]) rfl rfl ?_
              refine WX.s1 rfl rfl ?_
              refine WX.s1 (S' := [.long (((((e1L l (a4N l) (h4L l) ((l).length - a4N l)) ^^^ (((e1L l (a4N l) (h4L l) ((l).length - a4N l)).toUInt64 >>> ((33 : Int32).toInt64.toUInt64 &&& Int64.toUInt64 63)).toInt64)) * (-4417276706812531889)) ^^^ (((((e1L l (a4N l) (h4L l) ((l).length - a4N l)) ^^^ (((e1L l (a4N l) (h4L l) ((l).length - a4N l)).toUInt64 >>> ((33 : Int32).toInt64.toUInt64 &&& Int64.toUInt64 63)).toInt64)) * (-4417276706812531889)).toUInt64 >>> ((29 : Int32).toInt64.toUInt64 &&& Int64.toUInt64 63)).toInt64)) * 1609587929392839161)]) rfl rfl ?_
              refine WX.s1 (L' := [(0, .ref 1), (2, .long (((((e1L l (a4N l) (h4L l) ((l).length - a4N l)) ^^^ (((e1L l (a4N l) (h4L l) ((l).length - a4N l)).toUInt64 >>> ((33 : Int32).toInt64.toUInt64 &&& Int64.toUInt64 63)).toInt64)) * (-4417276706812531889)) ^^^ (((((e1L l (a4N l) (h4L l) ((l).length - a4N l)) ^^^ (((e1L l (a4N l) (h4L l) ((l).length - a4N l)).toUInt64 >>> ((33 : Int32).toInt64.toUInt64 &&& Int64.toUInt64 63)).toInt64)) * (-4417276706812531889)).toUInt64 >>> ((29 : Int32).toInt64.toUInt64 &&& Int64.toUInt64 63)).toInt64)) * 1609587929392839161)), (4, .int (nI (a4N l + ((l).length - a4N l))))]) rfl rfl ?_
              refine WX.s1 rfl rfl ?_
              refine WX.s1 rfl rfl ?_
              refine WX.s1 rfl rfl ?_
              refine WX.s1 (S' := [.long (((((((e1L l (a4N l) (h4L l) ((l).length - a4N l)) ^^^ (((e1L l (a4N l) (h4L l) ((l).length - a4N l)).toUInt64 >>> ((33 : Int32).toInt64.toUInt64 &&& Int64.toUInt64 63)).toInt64)) * (-4417276706812531889)) ^^^ (((((e1L l (a4N l) (h4L l) ((l).length - a4N l)) ^^^ (((e1L l (a4N l) (h4L l) ((l).length - a4N l)).toUInt64 >>> ((33 : Int32).toInt64.toUInt64 &&& Int64.toUInt64 63)).toInt64)) * (-4417276706812531889)).toUInt64 >>> ((29 : Int32).toInt64.toUInt64 &&& Int64.toUInt64 63)).toInt64)) * 1609587929392839161).toUInt64 >>> ((32 : Int32).toInt64.toUInt64 &&& Int64.toUInt64 63)).toInt64), .long (((((e1L l (a4N l) (h4L l) ((l).length - a4N l)) ^^^ (((e1L l (a4N l) (h4L l) ((l).length - a4N l)).toUInt64 >>> ((33 : Int32).toInt64.toUInt64 &&& Int64.toUInt64 63)).toInt64)) * (-4417276706812531889)) ^^^ (((((e1L l (a4N l) (h4L l) ((l).length - a4N l)) ^^^ (((e1L l (a4N l) (h4L l) ((l).length - a4N l)).toUInt64 >>> ((33 : Int32).toInt64.toUInt64 &&& Int64.toUInt64 63)).toInt64)) * (-4417276706812531889)).toUInt64 >>> ((29 : Int32).toInt64.toUInt64 &&& Int64.toUInt64 63)).toInt64)) * 1609587929392839161)]) rfl rfl ?_
              refine WX.s1 (S' := [.long ((((((e1L l (a4N l) (h4L l) ((l).length - a4N l)) ^^^ (((e1L l (a4N l) (h4L l) ((l).length - a4N l)).toUInt64 >>> ((33 : Int32).toInt64.toUInt64 &&& Int64.toUInt64 63)).toInt64)) * (-4417276706812531889)) ^^^ (((((e1L l (a4N l) (h4L l) ((l).length - a4N l)) ^^^ (((e1L l (a4N l) (h4L l) ((l).length - a4N l)).toUInt64 >>> ((33 : Int32).toInt64.toUInt64 &&& Int64.toUInt64 63)).toInt64)) * (-4417276706812531889)).toUInt64 >>> ((29 : Int32).toInt64.toUInt64 &&& Int64.toUInt64 63)).toInt64)) * 1609587929392839161) ^^^ (((((((e1L l (a4N l) (h4L l) ((l).length - a4N l)) ^^^ (((e1L l (a4N l) (h4L l) ((l).length - a4N l)).toUInt64 >>> ((33 : Int32).toInt64.toUInt64 &&& Int64.toUInt64 63)).toInt64)) * (-4417276706812531889)) ^^^ (((((e1L l (a4N l) (h4L l) ((l).length - a4N l)) ^^^ (((e1L l (a4N l) (h4L l) ((l).length - a4N l)).toUInt64 >>> ((33 : Int32).toInt64.toUInt64 &&& Int64.toUInt64 63)).toInt64)) * (-4417276706812531889)).toUInt64 >>> ((29 : Int32).toInt64.toUInt64 &&& Int64.toUInt64 63)).toInt64)) * 1609587929392839161).toUInt64 >>> ((32 : Int32).toInt64.toUInt64 &&& Int64.toUInt64 63)).toInt64))]) rfl rfl ?_
              exact WX.ret2 rfl kk
            | succ t ih =>
              intro j ht
              refine WX.s1 rfl rfl ?_
              refine WX.s1 rfl rfl ?_
              refine WX.get1 (fs := [.ref 2, .int (nI (l).length), .int 0, .long ho, .int hd]) rfl (ltN hn (by decide)) (F_h_1) rfl ?_
              refine WX.icmp rfl (fun c_143 => absurd c_143 (fun zz_ => absurd ((nI_leI (a := (l).length) (b := a4N l + j) (by omega) (by omega)).mp zz_) (Nat.not_le.mpr (by omega)))) (fun c_143 => ?_)
              clear c_143
              refine WX.s1 rfl rfl ?_
              refine WX.s1 rfl rfl ?_
              refine WX.s1 rfl rfl ?_
              refine WX.callC (vs := [.ref 1, .int (nI (a4N l + j))]) rfl rfl rfl (Nat.le_of_ble_eq_true rfl) ((P_h_in).rcv (ltN hn (by decide))) ?_
              refine x_at1 (d := d + 2) (by omega) (by decide) (by omega) P_h_in (fun v hv1 hv2 => ?_)
              obtain rfl := hv1 (by omega)
              show WX _ _ _ 153 [(0, .ref 1), (2, .long (e1L l (a4N l) (h4L l) j)), (4, .int (nI (a4N l + j)))] [.int (nI ((l).getD (a4N l + j) 0)), .long (e1L l (a4N l) (h4L l) j)] (n, s, h)
              refine WX.s1 (S' := [.long ((nI ((l).getD (a4N l + j) 0)).toInt64), .long (e1L l (a4N l) (h4L l) j)]) rfl rfl ?_
              refine WX.s1 rfl rfl ?_
              refine WX.s1 (S' := [.long (((nI ((l).getD (a4N l + j) 0)).toInt64) * 2870177450012600261), .long (e1L l (a4N l) (h4L l) j)]) rfl rfl ?_
              refine WX.s1 (S' := [.long ((e1L l (a4N l) (h4L l) j) ^^^ (((nI ((l).getD (a4N l + j) 0)).toInt64) * 2870177450012600261))]) rfl rfl ?_
              refine WX.s1 rfl rfl ?_
              refine WX.callC (vs := [.long ((e1L l (a4N l) (h4L l) j) ^^^ (((nI ((l).getD (a4N l + j) 0)).toInt64) * 2870177450012600261)), .int 11]) rfl rfl rfl (Nat.le_of_ble_eq_true rfl) rfl ?_
              refine x_rot (d := d + 2)  ?_
              show WX _ _ _ 164 [(0, .ref 1), (2, .long (e1L l (a4N l) (h4L l) j)), (4, .int (nI (a4N l + j)))] [.long (rtL ((e1L l (a4N l) (h4L l) j) ^^^ (((nI ((l).getD (a4N l + j) 0)).toInt64) * 2870177450012600261)) 11)] (n, s, h)
              refine WX.s1 rfl rfl ?_
              refine WX.s1 (S' := [.long ((rtL ((e1L l (a4N l) (h4L l) j) ^^^ (((nI ((l).getD (a4N l + j) 0)).toInt64) * 2870177450012600261)) 11) * (-7046029288634856825))]) rfl rfl ?_
              refine WX.s1 (L' := [(0, .ref 1), (2, .long ((rtL ((e1L l (a4N l) (h4L l) j) ^^^ (((nI ((l).getD (a4N l + j) 0)).toInt64) * 2870177450012600261)) 11) * (-7046029288634856825))), (4, .int (nI (a4N l + j)))]) rfl rfl ?_
              refine WX.s1 (L' := [(0, .ref 1), (2, .long ((rtL ((e1L l (a4N l) (h4L l) j) ^^^ (((nI ((l).getD (a4N l + j) 0)).toInt64) * 2870177450012600261)) 11) * (-7046029288634856825))), (4, .int ((nI (a4N l + j)) + 1))]) rfl rfl ?_
              rw [show ((nI (a4N l + j)) + 1) = nI (a4N l + j + 1) from nI_add (a4N l + j) 1]
              refine WX.s1 rfl rfl ?_
              exact ih (j + 1) (by omega)
          exact lp ((l).length - a4N l) 0 (by omega)
        refine WX.s1 rfl rfl ?_
        refine WX.s1 rfl rfl ?_
        refine WX.s1 (S' := [.int ((nI (a8N l)) + 4)]) rfl rfl ?_
        rw [show ((nI (a8N l)) + 4) = nI (a8N l + 4) from nI_add (a8N l) 4]
        refine WX.s1 rfl rfl ?_
        refine WX.get1 (fs := [.ref 2, .int (nI (l).length), .int 0, .long ho, .int hd]) rfl (ltN hn (by decide)) (F_h_1) rfl ?_
        refine WX.icmp rfl (fun c_101 => ?_) (fun c_101 => ?_)
        · skip
          have n_101 : (l).length < (a8N l + 4) := (nI_ltI (a := (l).length) (b := a8N l + 4) (by omega) (by omega)).mp c_101
          have e4 : a4N l = a8N l := by unfold a4N; rw [if_neg (by omega)]
          have e4h : h4L l = h8L l := by unfold h4L; rw [if_neg (by omega)]
          rw [e4, e4h] at t137
          exact t137
        · skip
          have n_101 : (a8N l + 4) ≤ (l).length := Nat.le_of_not_lt (fun zz_ => c_101 ((nI_ltI (a := (l).length) (b := a8N l + 4) (by omega) (by omega)).mpr zz_))
          refine WX.s1 rfl rfl ?_
          refine WX.s1 rfl rfl ?_
          refine WX.s1 rfl rfl ?_
          refine WX.s1 rfl rfl ?_
          refine WX.callC (vs := [.ref 1, .int (nI (a8N l)), .int 4]) rfl rfl rfl (Nat.le_of_ble_eq_true rfl) ((P_h_in).rcv (ltN hn (by decide))) ?_
          refine x_num (d := d + 1) hn (by omega) (by decide) P_h_in ?_
          show WX _ _ _ 112 [(0, .ref 1), (2, .long (h8L l)), (4, .int (nI (a8N l)))] [.long (wdL l (a8N l) 4), .long (h8L l)] (n, s, h)
          refine WX.s1 rfl rfl ?_
          refine WX.s1 (S' := [.long ((wdL l (a8N l) 4) * (-7046029288634856825)), .long (h8L l)]) rfl rfl ?_
          refine WX.s1 (S' := [.long ((h8L l) ^^^ ((wdL l (a8N l) 4) * (-7046029288634856825)))]) rfl rfl ?_
          refine WX.s1 rfl rfl ?_
          refine WX.callC (vs := [.long ((h8L l) ^^^ ((wdL l (a8N l) 4) * (-7046029288634856825))), .int 23]) rfl rfl rfl (Nat.le_of_ble_eq_true rfl) rfl ?_
          refine x_rot (d := d + 2)  ?_
          show WX _ _ _ 122 [(0, .ref 1), (2, .long (h8L l)), (4, .int (nI (a8N l)))] [.long (rtL ((h8L l) ^^^ ((wdL l (a8N l) 4) * (-7046029288634856825))) 23)] (n, s, h)
          refine WX.s1 rfl rfl ?_
          refine WX.s1 (S' := [.long ((rtL ((h8L l) ^^^ ((wdL l (a8N l) 4) * (-7046029288634856825))) 23) * (-4417276706812531889))]) rfl rfl ?_
          refine WX.s1 rfl rfl ?_
          refine WX.s1 (S' := [.long (((rtL ((h8L l) ^^^ ((wdL l (a8N l) 4) * (-7046029288634856825))) 23) * (-4417276706812531889)) + 1609587929392839161)]) rfl rfl ?_
          refine WX.s1 (L' := [(0, .ref 1), (2, .long (((rtL ((h8L l) ^^^ ((wdL l (a8N l) 4) * (-7046029288634856825))) 23) * (-4417276706812531889)) + 1609587929392839161)), (4, .int (nI (a8N l)))]) rfl rfl ?_
          refine WX.s1 (L' := [(0, .ref 1), (2, .long (((rtL ((h8L l) ^^^ ((wdL l (a8N l) 4) * (-7046029288634856825))) 23) * (-4417276706812531889)) + 1609587929392839161)), (4, .int ((nI (a8N l)) + 4))]) rfl rfl ?_
          rw [show ((nI (a8N l)) + 4) = nI (a8N l + 4) from nI_add (a8N l) 4]
          refine WX.s1 rfl rfl ?_
          refine WX.s1 rfl rfl ?_
          refine WX.s1 rfl rfl ?_
          refine WX.s1 (S' := [.int ((nI (a8N l + 4)) + 4)]) rfl rfl ?_
          rw [show ((nI (a8N l + 4)) + 4) = nI (a8N l + 4 + 4) from nI_add (a8N l + 4) 4]
          refine WX.s1 rfl rfl ?_
          refine WX.get1 (fs := [.ref 2, .int (nI (l).length), .int 0, .long ho, .int hd]) rfl (ltN hn (by decide)) (F_h_1) rfl ?_
          refine WX.icmp rfl (fun c_101 => ?_) (fun c_101 => absurd ((nI_ltI (a := (l).length) (b := a8N l + 4 + 4) (by omega) (by omega)).mpr (by omega)) c_101)
          clear c_101
          have e4 : a4N l = a8N l + 4 := by unfold a4N; rw [if_pos (by omega)]
          have e4h : h4L l = sm4 (h8L l) (wdL l (a8N l) 4) := by unfold h4L; rw [if_pos (by omega)]
          rw [e4, e4h] at t137
          exact t137
      | succ t ih =>
        intro j ht
        refine WX.s1 rfl rfl ?_
        refine WX.s1 rfl rfl ?_
        refine WX.s1 (S' := [.int ((nI (32 * ((l).length / 32) + 8 * j)) + 8)]) rfl rfl ?_
        rw [show ((nI (32 * ((l).length / 32) + 8 * j)) + 8) = nI (32 * ((l).length / 32) + 8 * j + 8) from nI_add (32 * ((l).length / 32) + 8 * j) 8]
        refine WX.s1 rfl rfl ?_
        refine WX.get1 (fs := [.ref 2, .int (nI (l).length), .int 0, .long ho, .int hd]) rfl (ltN hn (by decide)) (F_h_1) rfl ?_
        refine WX.icmp rfl (fun c_47 => absurd c_47 (fun zz_ => absurd ((nI_ltI (a := (l).length) (b := 32 * ((l).length / 32) + 8 * j + 8) (by omega) (by omega)).mp zz_) (Nat.not_lt.mpr (by omega)))) (fun c_47 => ?_)
        clear c_47
        refine WX.s1 rfl rfl ?_
        refine WX.s1 rfl rfl ?_
        refine WX.s1 rfl rfl ?_
        refine WX.s1 rfl rfl ?_
        refine WX.callC (vs := [.ref 1, .int (nI (32 * ((l).length / 32) + 8 * j)), .int 8]) rfl rfl rfl (Nat.le_of_ble_eq_true rfl) ((P_h_in).rcv (ltN hn (by decide))) ?_
        refine x_num (d := d + 1) hn (by omega) (by decide) P_h_in ?_
        show WX _ _ _ 59 [(0, .ref 1), (2, .long (e8L l (32 * ((l).length / 32)) (h0L l) j)), (4, .int (nI (32 * ((l).length / 32) + 8 * j)))] [.long (wdL l (32 * ((l).length / 32) + 8 * j) 8), .long (e8L l (32 * ((l).length / 32)) (h0L l) j)] (n, s, h)
        refine WX.s1 rfl rfl ?_
        refine WX.s1 (S' := [.long ((wdL l (32 * ((l).length / 32) + 8 * j) 8) * (-4417276706812531889)), .long (e8L l (32 * ((l).length / 32)) (h0L l) j)]) rfl rfl ?_
        refine WX.s1 rfl rfl ?_
        refine WX.callC (vs := [.long ((wdL l (32 * ((l).length / 32) + 8 * j) 8) * (-4417276706812531889)), .int 31]) rfl rfl rfl (Nat.le_of_ble_eq_true rfl) rfl ?_
        refine x_rot (d := d + 2)  ?_
        show WX _ _ _ 68 [(0, .ref 1), (2, .long (e8L l (32 * ((l).length / 32)) (h0L l) j)), (4, .int (nI (32 * ((l).length / 32) + 8 * j)))] [.long (rtL ((wdL l (32 * ((l).length / 32) + 8 * j) 8) * (-4417276706812531889)) 31), .long (e8L l (32 * ((l).length / 32)) (h0L l) j)] (n, s, h)
        refine WX.s1 rfl rfl ?_
        refine WX.s1 (S' := [.long ((rtL ((wdL l (32 * ((l).length / 32) + 8 * j) 8) * (-4417276706812531889)) 31) * (-7046029288634856825)), .long (e8L l (32 * ((l).length / 32)) (h0L l) j)]) rfl rfl ?_
        refine WX.s1 (S' := [.long ((e8L l (32 * ((l).length / 32)) (h0L l) j) ^^^ ((rtL ((wdL l (32 * ((l).length / 32) + 8 * j) 8) * (-4417276706812531889)) 31) * (-7046029288634856825)))]) rfl rfl ?_
        refine WX.s1 rfl rfl ?_
        refine WX.callC (vs := [.long ((e8L l (32 * ((l).length / 32)) (h0L l) j) ^^^ ((rtL ((wdL l (32 * ((l).length / 32) + 8 * j) 8) * (-4417276706812531889)) 31) * (-7046029288634856825))), .int 27]) rfl rfl rfl (Nat.le_of_ble_eq_true rfl) rfl ?_
        refine x_rot (d := d + 2)  ?_
        show WX _ _ _ 78 [(0, .ref 1), (2, .long (e8L l (32 * ((l).length / 32)) (h0L l) j)), (4, .int (nI (32 * ((l).length / 32) + 8 * j)))] [.long (rtL ((e8L l (32 * ((l).length / 32)) (h0L l) j) ^^^ ((rtL ((wdL l (32 * ((l).length / 32) + 8 * j) 8) * (-4417276706812531889)) 31) * (-7046029288634856825))) 27)] (n, s, h)
        refine WX.s1 rfl rfl ?_
        refine WX.s1 (S' := [.long ((rtL ((e8L l (32 * ((l).length / 32)) (h0L l) j) ^^^ ((rtL ((wdL l (32 * ((l).length / 32) + 8 * j) 8) * (-4417276706812531889)) 31) * (-7046029288634856825))) 27) * (-7046029288634856825))]) rfl rfl ?_
        refine WX.s1 rfl rfl ?_
        refine WX.s1 (S' := [.long (((rtL ((e8L l (32 * ((l).length / 32)) (h0L l) j) ^^^ ((rtL ((wdL l (32 * ((l).length / 32) + 8 * j) 8) * (-4417276706812531889)) 31) * (-7046029288634856825))) 27) * (-7046029288634856825)) + (-8796714831421723037))]) rfl rfl ?_
        refine WX.s1 (L' := [(0, .ref 1), (2, .long (((rtL ((e8L l (32 * ((l).length / 32)) (h0L l) j) ^^^ ((rtL ((wdL l (32 * ((l).length / 32) + 8 * j) 8) * (-4417276706812531889)) 31) * (-7046029288634856825))) 27) * (-7046029288634856825)) + (-8796714831421723037))), (4, .int (nI (32 * ((l).length / 32) + 8 * j)))]) rfl rfl ?_
        refine WX.s1 (L' := [(0, .ref 1), (2, .long (((rtL ((e8L l (32 * ((l).length / 32)) (h0L l) j) ^^^ ((rtL ((wdL l (32 * ((l).length / 32) + 8 * j) 8) * (-4417276706812531889)) 31) * (-7046029288634856825))) 27) * (-7046029288634856825)) + (-8796714831421723037))), (4, .int ((nI (32 * ((l).length / 32) + 8 * j)) + 8))]) rfl rfl ?_
        rw [show ((nI (32 * ((l).length / 32) + 8 * j)) + 8) = nI (32 * ((l).length / 32) + 8 * j + 8) from nI_add (32 * ((l).length / 32) + 8 * j) 8]
        refine WX.s1 rfl rfl ?_
        rw [show 32 * ((l).length / 32) + 8 * j + 8 = (32 * ((l).length / 32) + 8 * (j + 1)) by omega]
        exact ih (j + 1) (by omega)
    refine WX.keep (y := 119) [0, 2, 4] (show ([0, 1, 2, 4] : List Nat).Nodup by decide) rfl ?_
    exact lp ((l).length % 32 / 8) 0 (by omega)
  refine WX.s1 rfl rfl ?_
  refine WX.if_ rfl (fun c_12 => ?_) (fun c_12 => ?_)
  · skip
    have n_12 : ¬ (32 * ((l).length / 32)) = 0 := fun zz_ => c_12 ((nI_eq (a := 32 * ((l).length / 32)) (b := 0) (by omega) (by omega)).mpr zz_)
    refine WX.s1 rfl rfl ?_
    refine WX.s1 rfl rfl ?_
    refine WX.callC (vs := [.ref 1, .int (nI (32 * ((l).length / 32)))]) rfl rfl rfl (Nat.le_of_ble_eq_true rfl) rfl ?_
    refine x_lanes (d := d) (w := ((l).length / 32)) hn (by omega) F_h_1 P_h_in ?_
    show WX _ _ _ 26 [(0, .ref 1), (1, .int (nI (32 * ((l).length / 32))))] [.long (lnH (lnA l ((l).length / 32)))] (n, s, h)
    exact t26 _ (by unfold h0L; rw [if_neg (by omega)])
  · skip
    have n_12 : (32 * ((l).length / 32)) = 0 := (nI_eq (a := 32 * ((l).length / 32)) (b := 0) (by omega) (by omega)).mp (Classical.not_not.mp c_12)
    refine WX.s1 rfl rfl ?_
    refine WX.s1 rfl rfl ?_
    exact t26 _ (by unfold h0L; rw [if_pos (by omega)])
