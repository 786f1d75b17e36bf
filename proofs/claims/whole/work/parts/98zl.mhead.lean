/-! the reference: heads of literals said -/
theorem head_or {k l n st w : Nat} (hk : k < 4) (hl : l < 4) (hn : n * 16 + 16 ≤ 2 ^ w) (hw : w < 40) (hst : st < 2 ^ 14) : (((lN k ||| lN (l * 2 ^ 2)) ||| lN (n * 2 ^ 4)) ||| lN (st * 2 ^ w)) = lN (k + l * 4 + n * 16 + st * 2 ^ w) := by
  have hp : 2 ^ w ≤ 2 ^ 40 := Nat.pow_le_pow_right (by decide) (by omega)
  have hs : st * 2 ^ w < 2 ^ 64 := Nat.lt_of_lt_of_le (Nat.mul_lt_mul_of_lt_of_le hst hp (by decide)) (by decide)
  have e1 : k ||| l * 2 ^ 2 = k + l * 2 ^ 2 := or_add (show k < 2 ^ 2 by omega)
  have e2 : (k + l * 2 ^ 2) ||| n * 2 ^ 4 = k + l * 2 ^ 2 + n * 2 ^ 4 := or_add (show k + l * 2 ^ 2 < 2 ^ 4 by omega)
  have e3 : (k + l * 2 ^ 2 + n * 2 ^ 4) ||| st * 2 ^ w = k + l * 2 ^ 2 + n * 2 ^ 4 + st * 2 ^ w := or_add (by
    show k + l * 4 + n * 16 < 2 ^ w
    omega)
  have b1 : k + l * 2 ^ 2 + n * 2 ^ 4 < 2 ^ 64 := by
    show k + l * 4 + n * 16 < 2 ^ 64
    have : 2 ^ 40 < 2 ^ 64 := by decide
    omega
  rw [wb_or (by omega) (by omega), e1, wb_or (by omega) (by omega), e2, wb_or b1 hs, e3]
set_option maxRecDepth 20000 in
theorem m_head2a {d n s : Nat} {h : Nat → aE} {m : Nat} {I : Nat → Int32} {AR : Nat → Nat → Int32} {LN : Nat → Int64} {ls lf : List Nat} {st_ : Nat} (hm : m + 43 < n) (M_h : MAt h m I AR LN) (hlen : ls.length ≤ 8000) (hn1 : ls.length < 1024) (hst : st_ < 16384) (hF : FrameIs I AR lf) (hl : lf.length < 2 ^ 28) (K_I_33 : I 33 = (nI ls.length)) {Ψ : Option Value → aH → Prop} (kk : ∀ h' I' A', Fr h h' (inM m) → MAt h' m I' A' LN → Fi I I' (fun f => f = 40) → Fa AR A' 25 → FrameIs I' A' (lf ++ hdY 2 st_ ls) → Ψ none (n, s, h')) : WO (mM (d + 3)) 193 [.ref m, .int (nI 2), .int 0, .int (nI st_)] (n, s, h) Ψ := by
  refine WO.of (Nat.le_of_ble_eq_true rfl) ?_
  have FR_h : Fr h h (inM m) := Fr.rf
  have FI_I : Fi I I (fun f => f = 40) := Fi.rf
  show WX (lk tX12_sayHead) (mM (d + 2)) Ψ 0 [(0, .ref m), (1, .int (nI 2)), (2, .int 0), (3, .int (nI st_))] [] (n, s, h)
  refine WX.s1 rfl rfl ?_
  refine WX.s1 rfl rfl ?_
  refine WX.s1 (S' := [.long ((nI 2).toInt64), .ref m]) rfl rfl ?_
  refine WX.s1 rfl rfl ?_
  refine WX.s1 (S' := [.long ((0 : Int32).toInt64), .long ((nI 2).toInt64), .ref m]) rfl rfl ?_
  refine WX.s1 rfl rfl ?_
  refine WX.s1 (S' := [.long (((0 : Int32).toInt64) <<< ((2 : Int32).toInt64 &&& 63)), .long ((nI 2).toInt64), .ref m]) rfl rfl ?_
  refine WX.s1 (S' := [.long (((nI 2).toInt64) ||| (((0 : Int32).toInt64) <<< ((2 : Int32).toInt64 &&& 63))), .ref m]) rfl rfl ?_
  refine WX.s1 rfl rfl ?_
  refine WX.mgetK (x := (nI ls.length)) rfl hm M_h rfl K_I_33 ?_
  refine WX.s1 (S' := [.long ((nI ls.length).toInt64), .long (((nI 2).toInt64) ||| (((0 : Int32).toInt64) <<< ((2 : Int32).toInt64 &&& 63))), .ref m]) rfl rfl ?_
  refine WX.s1 rfl rfl ?_
  refine WX.s1 (S' := [.long (((nI ls.length).toInt64) <<< ((4 : Int32).toInt64 &&& 63)), .long (((nI 2).toInt64) ||| (((0 : Int32).toInt64) <<< ((2 : Int32).toInt64 &&& 63))), .ref m]) rfl rfl ?_
  refine WX.s1 (S' := [.long ((((nI 2).toInt64) ||| (((0 : Int32).toInt64) <<< ((2 : Int32).toInt64 &&& 63))) ||| (((nI ls.length).toInt64) <<< ((4 : Int32).toInt64 &&& 63))), .ref m]) rfl rfl ?_
  refine WX.s1 rfl rfl ?_
  refine WX.s1 (S' := [.long ((nI st_).toInt64), .long ((((nI 2).toInt64) ||| (((0 : Int32).toInt64) <<< ((2 : Int32).toInt64 &&& 63))) ||| (((nI ls.length).toInt64) <<< ((4 : Int32).toInt64 &&& 63))), .ref m]) rfl rfl ?_
  refine WX.s1 rfl rfl ?_
  refine WX.s1 rfl rfl ?_
  refine WX.callC (vs := [.int 0]) rfl rfl rfl (Nat.le_of_ble_eq_true rfl) rfl ?_
  refine m_width ?_
  rw [show wdI 0 = 10 by decide]
  show WX _ _ _ 23 [(0, .ref m), (1, .int (nI 2)), (2, .int 0), (3, .int (nI st_))] [.int (10 : Int32), .int 4, .long ((nI st_).toInt64), .long ((((nI 2).toInt64) ||| (((0 : Int32).toInt64) <<< ((2 : Int32).toInt64 &&& 63))) ||| (((nI ls.length).toInt64) <<< ((4 : Int32).toInt64 &&& 63))), .ref m] (n, s, h)
  refine WX.s1 (S' := [.int (4 + (10 : Int32)), .long ((nI st_).toInt64), .long ((((nI 2).toInt64) ||| (((0 : Int32).toInt64) <<< ((2 : Int32).toInt64 &&& 63))) ||| (((nI ls.length).toInt64) <<< ((4 : Int32).toInt64 &&& 63))), .ref m]) rfl rfl ?_
  refine WX.s1 (S' := [.long (((nI st_).toInt64) <<< ((4 + (10 : Int32)).toInt64 &&& 63)), .long ((((nI 2).toInt64) ||| (((0 : Int32).toInt64) <<< ((2 : Int32).toInt64 &&& 63))) ||| (((nI ls.length).toInt64) <<< ((4 : Int32).toInt64 &&& 63))), .ref m]) rfl rfl ?_
  refine WX.s1 (S' := [.long (((((nI 2).toInt64) ||| (((0 : Int32).toInt64) <<< ((2 : Int32).toInt64 &&& 63))) ||| (((nI ls.length).toInt64) <<< ((4 : Int32).toInt64 &&& 63))) ||| (((nI st_).toInt64) <<< ((4 + (10 : Int32)).toInt64 &&& 63))), .ref m]) rfl rfl ?_
  refine WX.s1 rfl rfl ?_
  refine WX.callC (vs := [.int 0]) rfl rfl rfl (Nat.le_of_ble_eq_true rfl) rfl ?_
  refine m_headB ?_
  rw [show hbI 0 = 3 by decide]
  show WX _ _ _ 30 [(0, .ref m), (1, .int (nI 2)), (2, .int 0), (3, .int (nI st_))] [.int 3, .long (((((nI 2).toInt64) ||| (((0 : Int32).toInt64) <<< ((2 : Int32).toInt64 &&& 63))) ||| (((nI ls.length).toInt64) <<< ((4 : Int32).toInt64 &&& 63))) ||| (((nI st_).toInt64) <<< ((4 + (10 : Int32)).toInt64 &&& 63))), .ref m] (n, s, h)
  rw [show (((((nI 2).toInt64) ||| (((0 : Int32).toInt64) <<< ((2 : Int32).toInt64 &&& 63))) ||| (((nI ls.length).toInt64) <<< ((4 : Int32).toInt64 &&& 63))) ||| (((nI st_).toInt64) <<< ((4 + (10 : Int32)).toInt64 &&& 63))) = lN (2 + 0 * 4 + ls.length * 16 + st_ * 2 ^ 14) by
    rw [nI_l (n := 2) (by decide), show ((0 : Int32)).toInt64 = lN 0 by decide, nI_l (n := ls.length) (by omega), nI_l (n := st_) (by omega)]
    rw [show ((2 : Int32)) = nI 2 from rfl, show ((4 : Int32) + (10 : Int32)) = nI 14 by decide, show ((4 : Int32)) = nI 4 from rfl, wb_shl 0 (show 2 < 64 by decide), wb_shl ls.length (show 4 < 64 by decide), wb_shl st_ (show 14 < 64 by decide)]
    exact head_or (by decide) (by decide) (by omega) (by decide) (by omega)]
  refine WX.callC (vs := [.ref m, .long (lN (2 + 0 * 4 + ls.length * 16 + st_ * 2 ^ 14)), .int (nI 3)]) rfl rfl rfl (Nat.le_of_ble_eq_true rfl) (M_h.rcv hm) ?_
  refine m_sayNumL hm M_h hF (by decide) (by omega) (fun h2 I2 A2 fr2 M_h2 fi2 fa2 hF2 => ?_)
  rw [leL_lN (by omega)] at hF2
  have hcv : hdY 2 st_ ls = leBy (2 + 0 * 4 + ls.length * 16 + st_ * 2 ^ 14) 3 := by unfold hdY cvF chd; rw [if_pos hn1, if_pos hn1]; congr 1; omega
  exact WX.ret0 rfl (kk h2 I2 A2 fr2 M_h2 fi2 fa2 (by rw [hcv]; exact hF2))
set_option maxRecDepth 20000 in
theorem m_head2b {d n s : Nat} {h : Nat → aE} {m : Nat} {I : Nat → Int32} {AR : Nat → Nat → Int32} {LN : Nat → Int64} {ls lf : List Nat} {st_ : Nat} (hm : m + 43 < n) (M_h : MAt h m I AR LN) (hlen : ls.length ≤ 8000) (hn1 : ¬ ls.length < 1024) (hst : st_ < 16384) (hF : FrameIs I AR lf) (hl : lf.length < 2 ^ 28) (K_I_33 : I 33 = (nI ls.length)) {Ψ : Option Value → aH → Prop} (kk : ∀ h' I' A', Fr h h' (inM m) → MAt h' m I' A' LN → Fi I I' (fun f => f = 40) → Fa AR A' 25 → FrameIs I' A' (lf ++ hdY 2 st_ ls) → Ψ none (n, s, h')) : WO (mM (d + 3)) 193 [.ref m, .int (nI 2), .int 2, .int (nI st_)] (n, s, h) Ψ := by
  refine WO.of (Nat.le_of_ble_eq_true rfl) ?_
  have FR_h : Fr h h (inM m) := Fr.rf
  have FI_I : Fi I I (fun f => f = 40) := Fi.rf
  show WX (lk tX12_sayHead) (mM (d + 2)) Ψ 0 [(0, .ref m), (1, .int (nI 2)), (2, .int 2), (3, .int (nI st_))] [] (n, s, h)
  refine WX.s1 rfl rfl ?_
  refine WX.s1 rfl rfl ?_
  refine WX.s1 (S' := [.long ((nI 2).toInt64), .ref m]) rfl rfl ?_
  refine WX.s1 rfl rfl ?_
  refine WX.s1 (S' := [.long ((2 : Int32).toInt64), .long ((nI 2).toInt64), .ref m]) rfl rfl ?_
  refine WX.s1 rfl rfl ?_
  refine WX.s1 (S' := [.long (((2 : Int32).toInt64) <<< ((2 : Int32).toInt64 &&& 63)), .long ((nI 2).toInt64), .ref m]) rfl rfl ?_
  refine WX.s1 (S' := [.long (((nI 2).toInt64) ||| (((2 : Int32).toInt64) <<< ((2 : Int32).toInt64 &&& 63))), .ref m]) rfl rfl ?_
  refine WX.s1 rfl rfl ?_
  refine WX.mgetK (x := (nI ls.length)) rfl hm M_h rfl K_I_33 ?_
  refine WX.s1 (S' := [.long ((nI ls.length).toInt64), .long (((nI 2).toInt64) ||| (((2 : Int32).toInt64) <<< ((2 : Int32).toInt64 &&& 63))), .ref m]) rfl rfl ?_
  refine WX.s1 rfl rfl ?_
  refine WX.s1 (S' := [.long (((nI ls.length).toInt64) <<< ((4 : Int32).toInt64 &&& 63)), .long (((nI 2).toInt64) ||| (((2 : Int32).toInt64) <<< ((2 : Int32).toInt64 &&& 63))), .ref m]) rfl rfl ?_
  refine WX.s1 (S' := [.long ((((nI 2).toInt64) ||| (((2 : Int32).toInt64) <<< ((2 : Int32).toInt64 &&& 63))) ||| (((nI ls.length).toInt64) <<< ((4 : Int32).toInt64 &&& 63))), .ref m]) rfl rfl ?_
  refine WX.s1 rfl rfl ?_
  refine WX.s1 (S' := [.long ((nI st_).toInt64), .long ((((nI 2).toInt64) ||| (((2 : Int32).toInt64) <<< ((2 : Int32).toInt64 &&& 63))) ||| (((nI ls.length).toInt64) <<< ((4 : Int32).toInt64 &&& 63))), .ref m]) rfl rfl ?_
  refine WX.s1 rfl rfl ?_
  refine WX.s1 rfl rfl ?_
  refine WX.callC (vs := [.int 2]) rfl rfl rfl (Nat.le_of_ble_eq_true rfl) rfl ?_
  refine m_width ?_
  rw [show wdI 2 = 14 by decide]
  show WX _ _ _ 23 [(0, .ref m), (1, .int (nI 2)), (2, .int 2), (3, .int (nI st_))] [.int (14 : Int32), .int 4, .long ((nI st_).toInt64), .long ((((nI 2).toInt64) ||| (((2 : Int32).toInt64) <<< ((2 : Int32).toInt64 &&& 63))) ||| (((nI ls.length).toInt64) <<< ((4 : Int32).toInt64 &&& 63))), .ref m] (n, s, h)
  refine WX.s1 (S' := [.int (4 + (14 : Int32)), .long ((nI st_).toInt64), .long ((((nI 2).toInt64) ||| (((2 : Int32).toInt64) <<< ((2 : Int32).toInt64 &&& 63))) ||| (((nI ls.length).toInt64) <<< ((4 : Int32).toInt64 &&& 63))), .ref m]) rfl rfl ?_
  refine WX.s1 (S' := [.long (((nI st_).toInt64) <<< ((4 + (14 : Int32)).toInt64 &&& 63)), .long ((((nI 2).toInt64) ||| (((2 : Int32).toInt64) <<< ((2 : Int32).toInt64 &&& 63))) ||| (((nI ls.length).toInt64) <<< ((4 : Int32).toInt64 &&& 63))), .ref m]) rfl rfl ?_
  refine WX.s1 (S' := [.long (((((nI 2).toInt64) ||| (((2 : Int32).toInt64) <<< ((2 : Int32).toInt64 &&& 63))) ||| (((nI ls.length).toInt64) <<< ((4 : Int32).toInt64 &&& 63))) ||| (((nI st_).toInt64) <<< ((4 + (14 : Int32)).toInt64 &&& 63))), .ref m]) rfl rfl ?_
  refine WX.s1 rfl rfl ?_
  refine WX.callC (vs := [.int 2]) rfl rfl rfl (Nat.le_of_ble_eq_true rfl) rfl ?_
  refine m_headB ?_
  rw [show hbI 2 = 4 by decide]
  show WX _ _ _ 30 [(0, .ref m), (1, .int (nI 2)), (2, .int 2), (3, .int (nI st_))] [.int 4, .long (((((nI 2).toInt64) ||| (((2 : Int32).toInt64) <<< ((2 : Int32).toInt64 &&& 63))) ||| (((nI ls.length).toInt64) <<< ((4 : Int32).toInt64 &&& 63))) ||| (((nI st_).toInt64) <<< ((4 + (14 : Int32)).toInt64 &&& 63))), .ref m] (n, s, h)
  rw [show (((((nI 2).toInt64) ||| (((2 : Int32).toInt64) <<< ((2 : Int32).toInt64 &&& 63))) ||| (((nI ls.length).toInt64) <<< ((4 : Int32).toInt64 &&& 63))) ||| (((nI st_).toInt64) <<< ((4 + (14 : Int32)).toInt64 &&& 63))) = lN (2 + 2 * 4 + ls.length * 16 + st_ * 2 ^ 18) by
    rw [nI_l (n := 2) (by decide), show ((2 : Int32)).toInt64 = lN 2 by decide, nI_l (n := ls.length) (by omega), nI_l (n := st_) (by omega)]
    rw [show lN 2 <<< (lN 2 &&& 63) = lN (2 * 2 ^ 2) by decide, show ((4 : Int32) + (14 : Int32)) = nI 18 by decide, show ((4 : Int32)) = nI 4 from rfl, wb_shl ls.length (show 4 < 64 by decide), wb_shl st_ (show 18 < 64 by decide)]
    exact head_or (by decide) (by decide) (by omega) (by decide) (by omega)]
  refine WX.callC (vs := [.ref m, .long (lN (2 + 2 * 4 + ls.length * 16 + st_ * 2 ^ 18)), .int (nI 4)]) rfl rfl rfl (Nat.le_of_ble_eq_true rfl) (M_h.rcv hm) ?_
  refine m_sayNumL hm M_h hF (by decide) (by omega) (fun h2 I2 A2 fr2 M_h2 fi2 fa2 hF2 => ?_)
  rw [leL_lN (by omega)] at hF2
  have hcv : hdY 2 st_ ls = leBy (2 + 2 * 4 + ls.length * 16 + st_ * 2 ^ 18) 4 := by unfold hdY cvF chd; rw [if_neg hn1, if_neg hn1]; congr 1; omega
  exact WX.ret0 rfl (kk h2 I2 A2 fr2 M_h2 fi2 fa2 (by rw [hcv]; exact hF2))
set_option maxRecDepth 20000 in
theorem m_head3a {d n s : Nat} {h : Nat → aE} {m : Nat} {I : Nat → Int32} {AR : Nat → Nat → Int32} {LN : Nat → Int64} {ls lf : List Nat} {st_ : Nat} (hm : m + 43 < n) (M_h : MAt h m I AR LN) (hlen : ls.length ≤ 8000) (hn1 : ls.length < 1024) (hst : st_ < 16384) (hF : FrameIs I AR lf) (hl : lf.length < 2 ^ 28) (K_I_33 : I 33 = (nI ls.length)) {Ψ : Option Value → aH → Prop} (kk : ∀ h' I' A', Fr h h' (inM m) → MAt h' m I' A' LN → Fi I I' (fun f => f = 40) → Fa AR A' 25 → FrameIs I' A' (lf ++ hdY 3 st_ ls) → Ψ none (n, s, h')) : WO (mM (d + 3)) 193 [.ref m, .int (nI 3), .int 0, .int (nI st_)] (n, s, h) Ψ := by
  refine WO.of (Nat.le_of_ble_eq_true rfl) ?_
  have FR_h : Fr h h (inM m) := Fr.rf
  have FI_I : Fi I I (fun f => f = 40) := Fi.rf
  show WX (lk tX12_sayHead) (mM (d + 2)) Ψ 0 [(0, .ref m), (1, .int (nI 3)), (2, .int 0), (3, .int (nI st_))] [] (n, s, h)
  refine WX.s1 rfl rfl ?_
  refine WX.s1 rfl rfl ?_
  refine WX.s1 (S' := [.long ((nI 3).toInt64), .ref m]) rfl rfl ?_
  refine WX.s1 rfl rfl ?_
  refine WX.s1 (S' := [.long ((0 : Int32).toInt64), .long ((nI 3).toInt64), .ref m]) rfl rfl ?_
  refine WX.s1 rfl rfl ?_
  refine WX.s1 (S' := [.long (((0 : Int32).toInt64) <<< ((2 : Int32).toInt64 &&& 63)), .long ((nI 3).toInt64), .ref m]) rfl rfl ?_
  refine WX.s1 (S' := [.long (((nI 3).toInt64) ||| (((0 : Int32).toInt64) <<< ((2 : Int32).toInt64 &&& 63))), .ref m]) rfl rfl ?_
  refine WX.s1 rfl rfl ?_
  refine WX.mgetK (x := (nI ls.length)) rfl hm M_h rfl K_I_33 ?_
  refine WX.s1 (S' := [.long ((nI ls.length).toInt64), .long (((nI 3).toInt64) ||| (((0 : Int32).toInt64) <<< ((2 : Int32).toInt64 &&& 63))), .ref m]) rfl rfl ?_
  refine WX.s1 rfl rfl ?_
  refine WX.s1 (S' := [.long (((nI ls.length).toInt64) <<< ((4 : Int32).toInt64 &&& 63)), .long (((nI 3).toInt64) ||| (((0 : Int32).toInt64) <<< ((2 : Int32).toInt64 &&& 63))), .ref m]) rfl rfl ?_
  refine WX.s1 (S' := [.long ((((nI 3).toInt64) ||| (((0 : Int32).toInt64) <<< ((2 : Int32).toInt64 &&& 63))) ||| (((nI ls.length).toInt64) <<< ((4 : Int32).toInt64 &&& 63))), .ref m]) rfl rfl ?_
  refine WX.s1 rfl rfl ?_
  refine WX.s1 (S' := [.long ((nI st_).toInt64), .long ((((nI 3).toInt64) ||| (((0 : Int32).toInt64) <<< ((2 : Int32).toInt64 &&& 63))) ||| (((nI ls.length).toInt64) <<< ((4 : Int32).toInt64 &&& 63))), .ref m]) rfl rfl ?_
  refine WX.s1 rfl rfl ?_
  refine WX.s1 rfl rfl ?_
  refine WX.callC (vs := [.int 0]) rfl rfl rfl (Nat.le_of_ble_eq_true rfl) rfl ?_
  refine m_width ?_
  rw [show wdI 0 = 10 by decide]
  show WX _ _ _ 23 [(0, .ref m), (1, .int (nI 3)), (2, .int 0), (3, .int (nI st_))] [.int (10 : Int32), .int 4, .long ((nI st_).toInt64), .long ((((nI 3).toInt64) ||| (((0 : Int32).toInt64) <<< ((2 : Int32).toInt64 &&& 63))) ||| (((nI ls.length).toInt64) <<< ((4 : Int32).toInt64 &&& 63))), .ref m] (n, s, h)
  refine WX.s1 (S' := [.int (4 + (10 : Int32)), .long ((nI st_).toInt64), .long ((((nI 3).toInt64) ||| (((0 : Int32).toInt64) <<< ((2 : Int32).toInt64 &&& 63))) ||| (((nI ls.length).toInt64) <<< ((4 : Int32).toInt64 &&& 63))), .ref m]) rfl rfl ?_
  refine WX.s1 (S' := [.long (((nI st_).toInt64) <<< ((4 + (10 : Int32)).toInt64 &&& 63)), .long ((((nI 3).toInt64) ||| (((0 : Int32).toInt64) <<< ((2 : Int32).toInt64 &&& 63))) ||| (((nI ls.length).toInt64) <<< ((4 : Int32).toInt64 &&& 63))), .ref m]) rfl rfl ?_
  refine WX.s1 (S' := [.long (((((nI 3).toInt64) ||| (((0 : Int32).toInt64) <<< ((2 : Int32).toInt64 &&& 63))) ||| (((nI ls.length).toInt64) <<< ((4 : Int32).toInt64 &&& 63))) ||| (((nI st_).toInt64) <<< ((4 + (10 : Int32)).toInt64 &&& 63))), .ref m]) rfl rfl ?_
  refine WX.s1 rfl rfl ?_
  refine WX.callC (vs := [.int 0]) rfl rfl rfl (Nat.le_of_ble_eq_true rfl) rfl ?_
  refine m_headB ?_
  rw [show hbI 0 = 3 by decide]
  show WX _ _ _ 30 [(0, .ref m), (1, .int (nI 3)), (2, .int 0), (3, .int (nI st_))] [.int 3, .long (((((nI 3).toInt64) ||| (((0 : Int32).toInt64) <<< ((2 : Int32).toInt64 &&& 63))) ||| (((nI ls.length).toInt64) <<< ((4 : Int32).toInt64 &&& 63))) ||| (((nI st_).toInt64) <<< ((4 + (10 : Int32)).toInt64 &&& 63))), .ref m] (n, s, h)
  rw [show (((((nI 3).toInt64) ||| (((0 : Int32).toInt64) <<< ((2 : Int32).toInt64 &&& 63))) ||| (((nI ls.length).toInt64) <<< ((4 : Int32).toInt64 &&& 63))) ||| (((nI st_).toInt64) <<< ((4 + (10 : Int32)).toInt64 &&& 63))) = lN (3 + 0 * 4 + ls.length * 16 + st_ * 2 ^ 14) by
    rw [nI_l (n := 3) (by decide), show ((0 : Int32)).toInt64 = lN 0 by decide, nI_l (n := ls.length) (by omega), nI_l (n := st_) (by omega)]
    rw [show ((2 : Int32)) = nI 2 from rfl, show ((4 : Int32) + (10 : Int32)) = nI 14 by decide, show ((4 : Int32)) = nI 4 from rfl, wb_shl 0 (show 2 < 64 by decide), wb_shl ls.length (show 4 < 64 by decide), wb_shl st_ (show 14 < 64 by decide)]
    exact head_or (by decide) (by decide) (by omega) (by decide) (by omega)]
  refine WX.callC (vs := [.ref m, .long (lN (3 + 0 * 4 + ls.length * 16 + st_ * 2 ^ 14)), .int (nI 3)]) rfl rfl rfl (Nat.le_of_ble_eq_true rfl) (M_h.rcv hm) ?_
  refine m_sayNumL hm M_h hF (by decide) (by omega) (fun h2 I2 A2 fr2 M_h2 fi2 fa2 hF2 => ?_)
  rw [leL_lN (by omega)] at hF2
  have hcv : hdY 3 st_ ls = leBy (3 + 0 * 4 + ls.length * 16 + st_ * 2 ^ 14) 3 := by unfold hdY cvF chd; rw [if_pos hn1, if_pos hn1]; congr 1; omega
  exact WX.ret0 rfl (kk h2 I2 A2 fr2 M_h2 fi2 fa2 (by rw [hcv]; exact hF2))
set_option maxRecDepth 20000 in
theorem m_head3b {d n s : Nat} {h : Nat → aE} {m : Nat} {I : Nat → Int32} {AR : Nat → Nat → Int32} {LN : Nat → Int64} {ls lf : List Nat} {st_ : Nat} (hm : m + 43 < n) (M_h : MAt h m I AR LN) (hlen : ls.length ≤ 8000) (hn1 : ¬ ls.length < 1024) (hst : st_ < 16384) (hF : FrameIs I AR lf) (hl : lf.length < 2 ^ 28) (K_I_33 : I 33 = (nI ls.length)) {Ψ : Option Value → aH → Prop} (kk : ∀ h' I' A', Fr h h' (inM m) → MAt h' m I' A' LN → Fi I I' (fun f => f = 40) → Fa AR A' 25 → FrameIs I' A' (lf ++ hdY 3 st_ ls) → Ψ none (n, s, h')) : WO (mM (d + 3)) 193 [.ref m, .int (nI 3), .int 2, .int (nI st_)] (n, s, h) Ψ := by
  refine WO.of (Nat.le_of_ble_eq_true rfl) ?_
  have FR_h : Fr h h (inM m) := Fr.rf
  have FI_I : Fi I I (fun f => f = 40) := Fi.rf
  show WX (lk tX12_sayHead) (mM (d + 2)) Ψ 0 [(0, .ref m), (1, .int (nI 3)), (2, .int 2), (3, .int (nI st_))] [] (n, s, h)
  refine WX.s1 rfl rfl ?_
  refine WX.s1 rfl rfl ?_
  refine WX.s1 (S' := [.long ((nI 3).toInt64), .ref m]) rfl rfl ?_
  refine WX.s1 rfl rfl ?_
  refine WX.s1 (S' := [.long ((2 : Int32).toInt64), .long ((nI 3).toInt64), .ref m]) rfl rfl ?_
  refine WX.s1 rfl rfl ?_
  refine WX.s1 (S' := [.long (((2 : Int32).toInt64) <<< ((2 : Int32).toInt64 &&& 63)), .long ((nI 3).toInt64), .ref m]) rfl rfl ?_
  refine WX.s1 (S' := [.long (((nI 3).toInt64) ||| (((2 : Int32).toInt64) <<< ((2 : Int32).toInt64 &&& 63))), .ref m]) rfl rfl ?_
  refine WX.s1 rfl rfl ?_
  refine WX.mgetK (x := (nI ls.length)) rfl hm M_h rfl K_I_33 ?_
  refine WX.s1 (S' := [.long ((nI ls.length).toInt64), .long (((nI 3).toInt64) ||| (((2 : Int32).toInt64) <<< ((2 : Int32).toInt64 &&& 63))), .ref m]) rfl rfl ?_
  refine WX.s1 rfl rfl ?_
  refine WX.s1 (S' := [.long (((nI ls.length).toInt64) <<< ((4 : Int32).toInt64 &&& 63)), .long (((nI 3).toInt64) ||| (((2 : Int32).toInt64) <<< ((2 : Int32).toInt64 &&& 63))), .ref m]) rfl rfl ?_
  refine WX.s1 (S' := [.long ((((nI 3).toInt64) ||| (((2 : Int32).toInt64) <<< ((2 : Int32).toInt64 &&& 63))) ||| (((nI ls.length).toInt64) <<< ((4 : Int32).toInt64 &&& 63))), .ref m]) rfl rfl ?_
  refine WX.s1 rfl rfl ?_
  refine WX.s1 (S' := [.long ((nI st_).toInt64), .long ((((nI 3).toInt64) ||| (((2 : Int32).toInt64) <<< ((2 : Int32).toInt64 &&& 63))) ||| (((nI ls.length).toInt64) <<< ((4 : Int32).toInt64 &&& 63))), .ref m]) rfl rfl ?_
  refine WX.s1 rfl rfl ?_
  refine WX.s1 rfl rfl ?_
  refine WX.callC (vs := [.int 2]) rfl rfl rfl (Nat.le_of_ble_eq_true rfl) rfl ?_
  refine m_width ?_
  rw [show wdI 2 = 14 by decide]
  show WX _ _ _ 23 [(0, .ref m), (1, .int (nI 3)), (2, .int 2), (3, .int (nI st_))] [.int (14 : Int32), .int 4, .long ((nI st_).toInt64), .long ((((nI 3).toInt64) ||| (((2 : Int32).toInt64) <<< ((2 : Int32).toInt64 &&& 63))) ||| (((nI ls.length).toInt64) <<< ((4 : Int32).toInt64 &&& 63))), .ref m] (n, s, h)
  refine WX.s1 (S' := [.int (4 + (14 : Int32)), .long ((nI st_).toInt64), .long ((((nI 3).toInt64) ||| (((2 : Int32).toInt64) <<< ((2 : Int32).toInt64 &&& 63))) ||| (((nI ls.length).toInt64) <<< ((4 : Int32).toInt64 &&& 63))), .ref m]) rfl rfl ?_
  refine WX.s1 (S' := [.long (((nI st_).toInt64) <<< ((4 + (14 : Int32)).toInt64 &&& 63)), .long ((((nI 3).toInt64) ||| (((2 : Int32).toInt64) <<< ((2 : Int32).toInt64 &&& 63))) ||| (((nI ls.length).toInt64) <<< ((4 : Int32).toInt64 &&& 63))), .ref m]) rfl rfl ?_
  refine WX.s1 (S' := [.long (((((nI 3).toInt64) ||| (((2 : Int32).toInt64) <<< ((2 : Int32).toInt64 &&& 63))) ||| (((nI ls.length).toInt64) <<< ((4 : Int32).toInt64 &&& 63))) ||| (((nI st_).toInt64) <<< ((4 + (14 : Int32)).toInt64 &&& 63))), .ref m]) rfl rfl ?_
  refine WX.s1 rfl rfl ?_
  refine WX.callC (vs := [.int 2]) rfl rfl rfl (Nat.le_of_ble_eq_true rfl) rfl ?_
  refine m_headB ?_
  rw [show hbI 2 = 4 by decide]
  show WX _ _ _ 30 [(0, .ref m), (1, .int (nI 3)), (2, .int 2), (3, .int (nI st_))] [.int 4, .long (((((nI 3).toInt64) ||| (((2 : Int32).toInt64) <<< ((2 : Int32).toInt64 &&& 63))) ||| (((nI ls.length).toInt64) <<< ((4 : Int32).toInt64 &&& 63))) ||| (((nI st_).toInt64) <<< ((4 + (14 : Int32)).toInt64 &&& 63))), .ref m] (n, s, h)
  rw [show (((((nI 3).toInt64) ||| (((2 : Int32).toInt64) <<< ((2 : Int32).toInt64 &&& 63))) ||| (((nI ls.length).toInt64) <<< ((4 : Int32).toInt64 &&& 63))) ||| (((nI st_).toInt64) <<< ((4 + (14 : Int32)).toInt64 &&& 63))) = lN (3 + 2 * 4 + ls.length * 16 + st_ * 2 ^ 18) by
    rw [nI_l (n := 3) (by decide), show ((2 : Int32)).toInt64 = lN 2 by decide, nI_l (n := ls.length) (by omega), nI_l (n := st_) (by omega)]
    rw [show lN 2 <<< (lN 2 &&& 63) = lN (2 * 2 ^ 2) by decide, show ((4 : Int32) + (14 : Int32)) = nI 18 by decide, show ((4 : Int32)) = nI 4 from rfl, wb_shl ls.length (show 4 < 64 by decide), wb_shl st_ (show 18 < 64 by decide)]
    exact head_or (by decide) (by decide) (by omega) (by decide) (by omega)]
  refine WX.callC (vs := [.ref m, .long (lN (3 + 2 * 4 + ls.length * 16 + st_ * 2 ^ 18)), .int (nI 4)]) rfl rfl rfl (Nat.le_of_ble_eq_true rfl) (M_h.rcv hm) ?_
  refine m_sayNumL hm M_h hF (by decide) (by omega) (fun h2 I2 A2 fr2 M_h2 fi2 fa2 hF2 => ?_)
  rw [leL_lN (by omega)] at hF2
  have hcv : hdY 3 st_ ls = leBy (3 + 2 * 4 + ls.length * 16 + st_ * 2 ^ 18) 4 := by unfold hdY cvF chd; rw [if_neg hn1, if_neg hn1]; congr 1; omega
  exact WX.ret0 rfl (kk h2 I2 A2 fr2 M_h2 fi2 fa2 (by rw [hcv]; exact hF2))
