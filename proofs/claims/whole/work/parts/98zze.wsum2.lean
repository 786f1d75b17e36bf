/-! THE WIDE SUM of the reference -/
theorem upL_s {f : Nat → Int64} {i : Nat} {v : Int64} : vp_updL f i v i = v := if_pos rfl
theorem upL_n {f : Nat → Int64} {i j : Nat} {v : Int64} (h : j ≠ i) : vp_updL f i v j = f j := if_neg h
theorem WX.mlald {tb : aT} {o : aO} {Ψ : Option Value → aH → Prop} {pc : Nat} {L : aL} {S : List Value} {n s : Nat} {h : Nat → aE} {m : Nat} {I : Nat → Int32} {AR : Nat → Nat → Int32} {LN : Nat → Int64} {nx : Nat} {i : Int32} (hh : tb pc = some (.inl (a_lald nx))) (hm : m + 43 < n) (M : MAt h m I AR LN) (hi : vp_in i 4) (kk : WX tb o Ψ nx L (.long (LN (i).toNatClampNeg) :: S) (n, s, h)) : WX tb o Ψ pc L (.int i :: .ref (m + 41) :: S) (n, s, h) := WX.lald1 hh (by omega) M.2.2 hi kk
theorem WX.mlast {tb : aT} {o : aO} {Ψ : Option Value → aH → Prop} {pc : Nat} {L : aL} {S : List Value} {n s : Nat} {h : Nat → aE} {m : Nat} {I : Nat → Int32} {AR : Nat → Nat → Int32} {LN : Nat → Int64} {nx : Nat} {i : Int32} {v : Int64} (hh : tb pc = some (.inl (a_last nx))) (hm : m + 43 < n) (M : MAt h m I AR LN) (hi : vp_in i 4) (kk : ∀ h' L', L' = vp_updL LN (i).toNatClampNeg v → MAt h' m I AR L' → Fr h h' (inM m) → WX tb o Ψ nx L S (n, s, h')) : WX tb o Ψ pc L (.long v :: .int i :: .ref (m + 41) :: S) (n, s, h) := by
  refine WX.lastN hh (by omega) M.2.2 hi (fun g h' eg eh => kk h' g eg ⟨?_, ?_, ?_⟩ (fun j hj => ?_))
  · rw [eh]; exact (va_up_neq (by omega)).trans M.1
  · intro c h1 h2 h3
    rw [eh]; exact (va_up_neq (by omega)).trans (M.2.1 c h1 h2 h3)
  · rw [eh]; exact va_up_eq
  · rw [eh]; exact va_up_neq (fun q => hj ⟨by omega, by omega⟩)
set_option maxRecDepth 20000 in
theorem m_word {d n s : Nat} {h : Nat → aE} {m : Nat} {I : Nat → Int32} {AR : Nat → Nat → Int32} {LN : Nat → Int64} {l : List Nat} {a b : Nat} (hm : m + 43 < n) (M_h : MAt h m I AR LN) (hF : InIs I AR l) (hl : ∀ i, (l).getD i 0 < 256) (hle : (l).length ≤ 8000) (hab : a + b ≤ (l).length) (hb : b ≤ 8)  {Ψ : Option Value → aH → Prop} (kk : Ψ (some (.long (wdL l a b))) (n, s, h)) : WO (mM (d + 1)) 211 [.ref m, .int (nI a), .int (nI b)] (n, s, h) Ψ := by
  refine WO.of (Nat.le_of_ble_eq_true rfl) ?_
  have FR_h : Fr h h (inM m) := Fr.rf
  have FI_I : Fi I I (fun f => f = 40) := Fi.rf
  show WX (lk tX12_wordAt) (mM d) Ψ 0 [(0, .ref m), (1, .int (nI a)), (2, .int (nI b))] [] (n, s, h)
  refine WX.s1 rfl rfl ?_
  refine WX.s1 (L' := [(0, .ref m), (1, .int (nI a)), (2, .int (nI b)), (3, .long 0)]) rfl rfl ?_
  refine WX.s1 rfl rfl ?_
  refine WX.s1 rfl rfl ?_
  refine WX.s1 (S' := [.int ((nI b) - 1)]) rfl rfl ?_
  rw [show nI b - 1 = qI b from nI_m1 b]
  refine WX.s1 (L' := [(0, .ref m), (1, .int (nI a)), (2, .int (nI b)), (3, .long 0), (5, .int (qI b))]) rfl rfl ?_
  have lp : ∀ (t : Nat), t ≤ b → WX (lk tX12_wordAt) (mM d) Ψ 7 [(0, .ref m), (1, .int (nI a)), (2, .int (nI b)), (3, .long (wdL l (a + t) (b - t))), (5, .int (qI t))] [] (n, s, h) := by
    intro t
    induction t with
    | zero =>
      intro ht
      show WX _ _ _ 7 [(0, .ref m), (1, .int (nI a)), (2, .int (nI b)), (3, .long (wdL l a b)), (5, .int (-1))] [] (n, s, h)
      refine WX.s1 rfl rfl ?_
      refine WX.if_ rfl (fun c_9 => ?_) (fun c_9 => absurd (by decide) c_9)
      clear c_9
      refine WX.s1 rfl rfl ?_
      exact WX.ret2 rfl kk
    | succ t ih =>
      intro ht
      show WX _ _ _ 7 [(0, .ref m), (1, .int (nI a)), (2, .int (nI b)), (3, .long (wdL l (a + (t + 1)) (b - (t + 1)))), (5, .int (nI t))] [] (n, s, h)
      refine WX.s1 rfl rfl ?_
      refine WX.if_ rfl (fun c_9 => absurd c_9 (fun zz_ => absurd ((nI_ltI (a := t) (b := 0) (by omega) (by omega)).mp zz_) (Nat.not_lt.mpr (by omega)))) (fun c_9 => ?_)
      clear c_9
      refine WX.s1 rfl rfl ?_
      refine WX.s1 rfl rfl ?_
      refine WX.s1 (S' := [.long ((wdL l (a + (t + 1)) (b - (t + 1))) <<< ((8 : Int32).toInt64 &&& 63))]) rfl rfl ?_
      refine WX.s1 rfl rfl ?_
      refine WX.mget rfl hm M_h rfl ?_
      refine WX.s1 rfl rfl ?_
      refine WX.s1 rfl rfl ?_
      refine WX.s1 (S' := [.int ((nI a) + (nI t)), .ref (m + 1), .long ((wdL l (a + (t + 1)) (b - (t + 1))) <<< ((8 : Int32).toInt64 &&& 63))]) rfl rfl ?_
      rw [nI_add a t]
      refine WX.mald (c := 1) rfl hm M_h (by decide) (by decide) (by decide) (by decide) (vp_in_nI (N := 8000) (by omega) (by decide)) ?_
      rw [nI_clamp (by omega), hF.2 (a + t) (by omega)]
      refine WX.s1 (S' := [.long ((nI ((l).getD (a + t) 0)).toInt64), .long ((wdL l (a + (t + 1)) (b - (t + 1))) <<< ((8 : Int32).toInt64 &&& 63))]) rfl rfl ?_
      refine WX.s1 (S' := [.long (((wdL l (a + (t + 1)) (b - (t + 1))) <<< ((8 : Int32).toInt64 &&& 63)) ||| ((nI ((l).getD (a + t) 0)).toInt64))]) rfl rfl ?_
      rw [show a + (t + 1) = a + t + 1 by omega, wd_dn hl (show b - (t + 1) < 8 by omega), show b - (t + 1) + 1 = b - t by omega]
      refine WX.s1 (L' := [(0, .ref m), (1, .int (nI a)), (2, .int (nI b)), (3, .long (wdL l (a + t) (b - t))), (5, .int (nI t))]) rfl rfl ?_
      refine WX.s1 (L' := [(0, .ref m), (1, .int (nI a)), (2, .int (nI b)), (3, .long (wdL l (a + t) (b - t))), (5, .int ((nI t) + (-1)))]) rfl rfl ?_
      refine WX.s1 rfl rfl ?_
      rw [qI_dec]
      exact ih (by omega)
  have e0 : (0 : Int64) = wdL l (a + b) (b - b) := by rw [Nat.sub_self]; rfl
  rw [e0]
  exact lp b (Nat.le_refl b)
set_option maxRecDepth 20000 in
theorem m_sum {d n s : Nat} {h : Nat → aE} {m : Nat} {I : Nat → Int32} {AR : Nat → Nat → Int32} {LN : Nat → Int64} {l : List Nat} (hm : m + 43 < n) (M_h : MAt h m I AR LN) (hF : InIs I AR l) (hl : ∀ i, (l).getD i 0 < 256) (hle : (l).length ≤ 8000)  {Ψ : Option Value → aH → Prop} (kk : ∀ h' L', Fr h h' (inM m) → MAt h' m I AR L' → Ψ (some (.long (wsF l))) (n, s, h')) : WO (mM (d + 2)) 212 [.ref m] (n, s, h) Ψ := by
  refine WO.of (Nat.le_of_ble_eq_true rfl) ?_
  have FR_h : Fr h h (inM m) := Fr.rf
  have FI_I : Fi I I (fun f => f = 40) := Fi.rf
  have K_I_1 : I 1 = nI (l).length := hF.1
  show WX (lk tX12_sum) (mM (d + 1)) Ψ 0 [(0, .ref m)] [] (n, s, h)
  refine WX.s1 rfl rfl ?_
  refine WX.s1 (L' := [(0, .ref m), (1, .long (-7046029288634856825))]) rfl rfl ?_
  refine WX.s1 rfl rfl ?_
  refine WX.s1 (L' := [(0, .ref m), (1, .long (-7046029288634856825)), (3, .long (-4417276706812531889))]) rfl rfl ?_
  refine WX.s1 rfl rfl ?_
  refine WX.s1 (L' := [(0, .ref m), (1, .long (-7046029288634856825)), (3, .long (-4417276706812531889)), (5, .long 1609587929392839161)]) rfl rfl ?_
  refine WX.s1 rfl rfl ?_
  refine WX.s1 (L' := [(0, .ref m), (1, .long (-7046029288634856825)), (3, .long (-4417276706812531889)), (5, .long 1609587929392839161), (7, .long (-8796714831421723037))]) rfl rfl ?_
  refine WX.s1 rfl rfl ?_
  refine WX.s1 (L' := [(0, .ref m), (1, .long (-7046029288634856825)), (3, .long (-4417276706812531889)), (5, .long 1609587929392839161), (7, .long (-8796714831421723037)), (9, .long 2870177450012600261)]) rfl rfl ?_
  refine WX.s1 rfl rfl ?_
  refine WX.s1 (L' := [(0, .ref m), (1, .long (-7046029288634856825)), (3, .long (-4417276706812531889)), (5, .long 1609587929392839161), (7, .long (-8796714831421723037)), (9, .long 2870177450012600261), (11, .long 2870177450012600261)]) rfl rfl ?_
  refine WX.s1 rfl rfl ?_
  refine WX.s1 (L' := [(0, .ref m), (1, .long (-7046029288634856825)), (3, .long (-4417276706812531889)), (5, .long 1609587929392839161), (7, .long (-8796714831421723037)), (9, .long 2870177450012600261), (11, .long 2870177450012600261), (13, .int 0)]) rfl rfl ?_
  have t225 : ∀ (x : Int64) (a : Nat) (hL : Nat → aE) (LL : Nat → Int64), x + (nI (l).length).toInt64 = h0L l → a = 32 * ((l).length / 32) → MAt hL m I AR LL → Fr h hL (inM m) → WX (lk tX12_sum) (mM (d + 1)) Ψ 225 [(0, .ref m), (1, .long (-7046029288634856825)), (3, .long (-4417276706812531889)), (5, .long 1609587929392839161), (7, .long (-8796714831421723037)), (9, .long 2870177450012600261), (11, .long x), (13, .int (nI a))] [] (n, s, hL) := by
    clear M_h FR_h
    intro x a hL LL hx ha M_hL FR_hL
    subst ha
    refine WX.s1 rfl rfl ?_
    refine WX.s1 rfl rfl ?_
    refine WX.mgetK (x := (nI (l).length)) rfl hm M_hL rfl K_I_1 ?_
    refine WX.s1 (S' := [.long ((nI (l).length).toInt64), .long x]) rfl rfl ?_
    refine WX.s1 (S' := [.long (x + ((nI (l).length).toInt64))]) rfl rfl ?_
    rw [hx]
    refine WX.s1 (L' := [(0, .ref m), (1, .long (-7046029288634856825)), (3, .long (-4417276706812531889)), (5, .long 1609587929392839161), (7, .long (-8796714831421723037)), (9, .long 2870177450012600261), (11, .long (h0L l)), (13, .int (nI (32 * ((l).length / 32))))]) rfl rfl ?_
    have lp : ∀ (t j : Nat), j + t = ((l).length % 32 / 8) → WX (lk tX12_sum) (mM (d + 1)) Ψ 235 [(0, .ref m), (1, .long (-7046029288634856825)), (3, .long (-4417276706812531889)), (5, .long 1609587929392839161), (7, .long (-8796714831421723037)), (9, .long 2870177450012600261), (11, .long (e8L l (32 * ((l).length / 32)) (h0L l) j)), (13, .int (nI (32 * ((l).length / 32) + 8 * j)))] [] (n, s, hL) := by
      intro t
      induction t with
      | zero =>
        intro j ht
        have ej : j = ((l).length % 32 / 8) := by omega
        rw [ej]
        have hb8 : (l).length < (32 * ((l).length / 32) + 8 * ((l).length % 32 / 8)) + 8 := by omega
        show WX (lk tX12_sum) (mM (d + 1)) Ψ 235 [(0, .ref m), (1, .long (-7046029288634856825)), (3, .long (-4417276706812531889)), (5, .long 1609587929392839161), (7, .long (-8796714831421723037)), (9, .long 2870177450012600261), (11, .long (h8L l)), (13, .int (nI (a8N l)))] [] (n, s, hL)
        have hb9 : (l).length < a8N l + 8 := hb8
        have hb7 : a8N l ≤ (l).length := by unfold a8N; omega
        refine WX.s1 rfl rfl ?_
        refine WX.mgetK (x := (nI (l).length)) rfl hm M_hL rfl K_I_1 ?_
        refine WX.s1 rfl rfl ?_
        refine WX.s1 (S' := [.int ((nI (l).length) - (nI (a8N l)))]) rfl rfl ?_
        rw [nI_subN (by omega)]
        refine WX.s1 rfl rfl ?_
        refine WX.icmp rfl (fun c_244 => ?_) (fun c_244 => absurd ((nI_ltI (a := (l).length - a8N l) (b := 8) (by omega) (by omega)).mpr (by omega)) c_244)
        clear c_244
        have t323 : WX (lk tX12_sum) (mM (d + 1)) Ψ 323 [(0, .ref m), (1, .long (-7046029288634856825)), (3, .long (-4417276706812531889)), (5, .long 1609587929392839161), (7, .long (-8796714831421723037)), (9, .long 2870177450012600261), (11, .long (h4L l)), (13, .int (nI (a4N l)))] [] (n, s, hL) := by
          have h4le : a4N l ≤ (l).length := by unfold a4N; split <;> omega
          have lp : ∀ (t j : Nat), j + t = ((l).length - a4N l) → WX (lk tX12_sum) (mM (d + 1)) Ψ 323 [(0, .ref m), (1, .long (-7046029288634856825)), (3, .long (-4417276706812531889)), (5, .long 1609587929392839161), (7, .long (-8796714831421723037)), (9, .long 2870177450012600261), (11, .long (e1L l (a4N l) (h4L l) j)), (13, .int (nI (a4N l + j)))] [] (n, s, hL) := by
            intro t
            induction t with
            | zero =>
              intro j ht
              obtain rfl : j = ((l).length - a4N l) := by omega
              refine WX.s1 rfl rfl ?_
              refine WX.s1 rfl rfl ?_
              refine WX.mgetK (x := (nI (l).length)) rfl hm M_hL rfl K_I_1 ?_
              refine WX.icmp rfl (fun c_329 => ?_) (fun c_329 => absurd ((nI_leI (a := (l).length) (b := a4N l + ((l).length - a4N l)) (by omega) (by omega)).mpr (by omega)) c_329)
              clear c_329
              refine WX.s1 rfl rfl ?_
              refine WX.s1 rfl rfl ?_
              refine WX.s1 rfl rfl ?_
              refine WX.s1 (S' := [.long (((e1L l (a4N l) (h4L l) ((l).length - a4N l)).toUInt64 >>> ((33 : Int32).toInt64.toUInt64 &&& Int64.toUInt64 63)).toInt64), .long (e1L l (a4N l) (h4L l) ((l).length - a4N l))]) rfl rfl ?_
              refine WX.s1 (S' := [.long ((e1L l (a4N l) (h4L l) ((l).length - a4N l)) ^^^ (((e1L l (a4N l) (h4L l) ((l).length - a4N l)).toUInt64 >>> ((33 : Int32).toInt64.toUInt64 &&& Int64.toUInt64 63)).toInt64))]) rfl rfl ?_
              refine WX.s1 rfl rfl ?_
              refine WX.s1 (S' := [.long (((e1L l (a4N l) (h4L l) ((l).length - a4N l)) ^^^ (((e1L l (a4N l) (h4L l) ((l).length - a4N l)).toUInt64 >>> ((33 : Int32).toInt64.toUInt64 &&& Int64.toUInt64 63)).toInt64)) * (-4417276706812531889))]) rfl rfl ?_
              refine WX.s1 (L' := [(0, .ref m), (1, .long (-7046029288634856825)), (3, .long (-4417276706812531889)), (5, .long 1609587929392839161), (7, .long (-8796714831421723037)), (9, .long 2870177450012600261), (11, .long (((e1L l (a4N l) (h4L l) ((l).length - a4N l)) ^^^ (((e1L l (a4N l) (h4L l) ((l).length - a4N l)).toUInt64 >>> ((33 : Int32).toInt64.toUInt64 &&& Int64.toUInt64 63)).toInt64)) * (-4417276706812531889))), (13, .int (nI (a4N l + ((l).length - a4N l))))]) rfl rfl ?_
              refine WX.s1 rfl rfl ?_
              refine WX.s1 rfl rfl ?_
              refine WX.s1 rfl rfl ?_
              refine WX.s1 (S' := [.long (((((e1L l (a4N l) (h4L l) ((l).length - a4N l)) ^^^ (((e1L l (a4N l) (h4L l) ((l).length - a4N l)).toUInt64 >>> ((33 : Int32).toInt64.toUInt64 &&& Int64.toUInt64 63)).toInt64)) * (-4417276706812531889)).toUInt64 >>> ((29 : Int32).toInt64.toUInt64 &&& Int64.toUInt64 63)).toInt64), .long (((e1L l (a4N l) (h4L l) ((l).length - a4N l)) ^^^ (((e1L l (a4N l) (h4L l) ((l).length - a4N l)).toUInt64 >>> ((33 : Int32).toInt64.toUInt64 &&& Int64.toUInt64 63)).toInt64)) * (-4417276706812531889))]) rfl rfl ?_
              refine WX.s1 (S' := [.long ((((e1L l (a4N l) (h4L l) ((l).length - a4N l)) ^^^ (((e1L l (a4N l) (h4L l) ((l).length - a4N l)).toUInt64 >>> ((33 : Int32).toInt64.toUInt64 &&& Int64.toUInt64 63)).toInt64)) * (-4417276706812531889)) ^^^ (((((e1L l (a4N l) (h4L l) ((l).length - a4N l)) ^^^ (((e1L l (a4N l) (h4L l) ((l).length - a4N l)).toUInt64 >>> ((33 : Int32).toInt64.toUInt64 &&& Int64.toUInt64 63)).toInt64)) * (-4417276706812531889)).toUInt64 >>> ((29 : Int32).toInt64.toUInt64 &&& Int64.toUInt64 63)).toInt64))]) rfl rfl ?_
              refine WX.s1 rfl rfl ?_
              refine WX.s1 (S' := [.long (((((e1L l (a4N l) (h4L l) ((l).length - a4N l)) ^^^ (((e1L l (a4N l) (h4L l) ((l).length - a4N l)).toUInt64 >>> ((33 : Int32).toInt64.toUInt64 &&& Int64.toUInt64 63)).toInt64)) * (-4417276706812531889)) ^^^ (((((e1L l (a4N l) (h4L l) ((l).length - a4N l)) ^^^ (((e1L l (a4N l) (h4L l) ((l).length - a4N l)).toUInt64 >>> ((33 : Int32).toInt64.toUInt64 &&& Int64.toUInt64 63)).toInt64)) * (-4417276706812531889)).toUInt64 >>> ((29 : Int32).toInt64.toUInt64 &&& Int64.toUInt64 63)).toInt64)) * 1609587929392839161)]) rfl rfl ?_
              refine WX.s1 (L' := [(0, .ref m), (1, .long (-7046029288634856825)), (3, .long (-4417276706812531889)), (5, .long 1609587929392839161), (7, .long (-8796714831421723037)), (9, .long 2870177450012600261), (11, .long (((((e1L l (a4N l) (h4L l) ((l).length - a4N l)) ^^^ (((e1L l (a4N l) (h4L l) ((l).length - a4N l)).toUInt64 >>> ((33 : Int32).toInt64.toUInt64 &&& Int64.toUInt64 63)).toInt64)) * (-4417276706812531889)) ^^^ (((((e1L l (a4N l) (h4L l) ((l).length - a4N l)) ^^^ (((e1L l (a4N l) (h4L l) ((l).length - a4N l)).toUInt64 >>> ((33 : Int32).toInt64.toUInt64 &&& Int64.toUInt64 63)).toInt64)) * (-4417276706812531889)).toUInt64 >>> ((29 : Int32).toInt64.toUInt64 &&& Int64.toUInt64 63)).toInt64)) * 1609587929392839161)), (13, .int (nI (a4N l + ((l).length - a4N l))))]) rfl rfl ?_
              refine WX.s1 rfl rfl ?_
              refine WX.s1 rfl rfl ?_
              refine WX.s1 rfl rfl ?_
              refine WX.s1 (S' := [.long (((((((e1L l (a4N l) (h4L l) ((l).length - a4N l)) ^^^ (((e1L l (a4N l) (h4L l) ((l).length - a4N l)).toUInt64 >>> ((33 : Int32).toInt64.toUInt64 &&& Int64.toUInt64 63)).toInt64)) * (-4417276706812531889)) ^^^ (((((e1L l (a4N l) (h4L l) ((l).length - a4N l)) ^^^ (((e1L l (a4N l) (h4L l) ((l).length - a4N l)).toUInt64 >>> ((33 : Int32).toInt64.toUInt64 &&& Int64.toUInt64 63)).toInt64)) * (-4417276706812531889)).toUInt64 >>> ((29 : Int32).toInt64.toUInt64 &&& Int64.toUInt64 63)).toInt64)) * 1609587929392839161).toUInt64 >>> ((32 : Int32).toInt64.toUInt64 &&& Int64.toUInt64 63)).toInt64), .long (((((e1L l (a4N l) (h4L l) ((l).length - a4N l)) ^^^ (((e1L l (a4N l) (h4L l) ((l).length - a4N l)).toUInt64 >>> ((33 : Int32).toInt64.toUInt64 &&& Int64.toUInt64 63)).toInt64)) * (-4417276706812531889)) ^^^ (((((e1L l (a4N l) (h4L l) ((l).length - a4N l)) ^^^ (((e1L l (a4N l) (h4L l) ((l).length - a4N l)).toUInt64 >>> ((33 : Int32).toInt64.toUInt64 &&& Int64.toUInt64 63)).toInt64)) * (-4417276706812531889)).toUInt64 >>> ((29 : Int32).toInt64.toUInt64 &&& Int64.toUInt64 63)).toInt64)) * 1609587929392839161)]) rfl rfl ?_
              refine WX.s1 (S' := [.long ((((((e1L l (a4N l) (h4L l) ((l).length - a4N l)) ^^^ (((e1L l (a4N l) (h4L l) ((l).length - a4N l)).toUInt64 >>> ((33 : Int32).toInt64.toUInt64 &&& Int64.toUInt64 63)).toInt64)) * (-4417276706812531889)) ^^^ (((((e1L l (a4N l) (h4L l) ((l).length - a4N l)) ^^^ (((e1L l (a4N l) (h4L l) ((l).length - a4N l)).toUInt64 >>> ((33 : Int32).toInt64.toUInt64 &&& Int64.toUInt64 63)).toInt64)) * (-4417276706812531889)).toUInt64 >>> ((29 : Int32).toInt64.toUInt64 &&& Int64.toUInt64 63)).toInt64)) * 1609587929392839161) ^^^ (((((((e1L l (a4N l) (h4L l) ((l).length - a4N l)) ^^^ (((e1L l (a4N l) (h4L l) ((l).length - a4N l)).toUInt64 >>> ((33 : Int32).toInt64.toUInt64 &&& Int64.toUInt64 63)).toInt64)) * (-4417276706812531889)) ^^^ (((((e1L l (a4N l) (h4L l) ((l).length - a4N l)) ^^^ (((e1L l (a4N l) (h4L l) ((l).length - a4N l)).toUInt64 >>> ((33 : Int32).toInt64.toUInt64 &&& Int64.toUInt64 63)).toInt64)) * (-4417276706812531889)).toUInt64 >>> ((29 : Int32).toInt64.toUInt64 &&& Int64.toUInt64 63)).toInt64)) * 1609587929392839161).toUInt64 >>> ((32 : Int32).toInt64.toUInt64 &&& Int64.toUInt64 63)).toInt64))]) rfl rfl ?_
              exact WX.ret2 rfl (kk hL LL FR_hL M_hL)
            | succ t ih =>
              intro j ht
              refine WX.s1 rfl rfl ?_
              refine WX.s1 rfl rfl ?_
              refine WX.mgetK (x := (nI (l).length)) rfl hm M_hL rfl K_I_1 ?_
              refine WX.icmp rfl (fun c_329 => absurd c_329 (fun zz_ => absurd ((nI_leI (a := (l).length) (b := a4N l + j) (by omega) (by omega)).mp zz_) (Nat.not_le.mpr (by omega)))) (fun c_329 => ?_)
              clear c_329
              refine WX.s1 rfl rfl ?_
              refine WX.s1 rfl rfl ?_
              refine WX.mget rfl hm M_hL rfl ?_
              refine WX.s1 rfl rfl ?_
              refine WX.mald (c := 1) rfl hm M_hL (by decide) (by decide) (by decide) (by decide) (vp_in_nI (N := 8000) (by omega) (by decide)) ?_
              rw [nI_clamp (by omega), hF.2 (a4N l + j) (by omega)]
              refine WX.s1 (S' := [.long ((nI ((l).getD (a4N l + j) 0)).toInt64), .long (e1L l (a4N l) (h4L l) j)]) rfl rfl ?_
              refine WX.s1 rfl rfl ?_
              refine WX.s1 (S' := [.long (((nI ((l).getD (a4N l + j) 0)).toInt64) * 2870177450012600261), .long (e1L l (a4N l) (h4L l) j)]) rfl rfl ?_
              refine WX.s1 (S' := [.long ((e1L l (a4N l) (h4L l) j) ^^^ (((nI ((l).getD (a4N l + j) 0)).toInt64) * 2870177450012600261))]) rfl rfl ?_
              refine WX.s1 rfl rfl ?_
              refine WX.callC (vs := [.long ((e1L l (a4N l) (h4L l) j) ^^^ (((nI ((l).getD (a4N l + j) 0)).toInt64) * 2870177450012600261)), .int 11]) rfl rfl rfl (Nat.le_of_ble_eq_true rfl) rfl ?_
              refine m_rot (d := d)  ?_
              show WX _ _ _ 351 [(0, .ref m), (1, .long (-7046029288634856825)), (3, .long (-4417276706812531889)), (5, .long 1609587929392839161), (7, .long (-8796714831421723037)), (9, .long 2870177450012600261), (11, .long (e1L l (a4N l) (h4L l) j)), (13, .int (nI (a4N l + j)))] [.long (rtL ((e1L l (a4N l) (h4L l) j) ^^^ (((nI ((l).getD (a4N l + j) 0)).toInt64) * 2870177450012600261)) 11)] (n, s, hL)
              refine WX.s1 rfl rfl ?_
              refine WX.s1 (S' := [.long ((rtL ((e1L l (a4N l) (h4L l) j) ^^^ (((nI ((l).getD (a4N l + j) 0)).toInt64) * 2870177450012600261)) 11) * (-7046029288634856825))]) rfl rfl ?_
              refine WX.s1 (L' := [(0, .ref m), (1, .long (-7046029288634856825)), (3, .long (-4417276706812531889)), (5, .long 1609587929392839161), (7, .long (-8796714831421723037)), (9, .long 2870177450012600261), (11, .long ((rtL ((e1L l (a4N l) (h4L l) j) ^^^ (((nI ((l).getD (a4N l + j) 0)).toInt64) * 2870177450012600261)) 11) * (-7046029288634856825))), (13, .int (nI (a4N l + j)))]) rfl rfl ?_
              refine WX.s1 (L' := [(0, .ref m), (1, .long (-7046029288634856825)), (3, .long (-4417276706812531889)), (5, .long 1609587929392839161), (7, .long (-8796714831421723037)), (9, .long 2870177450012600261), (11, .long ((rtL ((e1L l (a4N l) (h4L l) j) ^^^ (((nI ((l).getD (a4N l + j) 0)).toInt64) * 2870177450012600261)) 11) * (-7046029288634856825))), (13, .int ((nI (a4N l + j)) + 1))]) rfl rfl ?_
              rw [show ((nI (a4N l + j)) + 1) = nI (a4N l + j + 1) from nI_add (a4N l + j) 1]
              refine WX.s1 rfl rfl ?_
              exact ih (j + 1) (by omega)
          exact lp ((l).length - a4N l) 0 (by omega)
        refine WX.s1 rfl rfl ?_
        refine WX.mgetK (x := (nI (l).length)) rfl hm M_hL rfl K_I_1 ?_
        refine WX.s1 rfl rfl ?_
        refine WX.s1 (S' := [.int ((nI (l).length) - (nI (a8N l)))]) rfl rfl ?_
        rw [nI_subN (by omega)]
        refine WX.s1 rfl rfl ?_
        refine WX.icmp rfl (fun c_293 => ?_) (fun c_293 => ?_)
        · skip
          have n_293 : ((l).length - a8N l) < 4 := (nI_ltI (a := (l).length - a8N l) (b := 4) (by omega) (by omega)).mp c_293
          have e4 : a4N l = a8N l := by unfold a4N; rw [if_neg (by omega)]
          have e4h : h4L l = h8L l := by unfold h4L; rw [if_neg (by omega)]
          rw [e4, e4h] at t323
          exact t323
        · skip
          have n_293 : 4 ≤ ((l).length - a8N l) := Nat.le_of_not_lt (fun zz_ => c_293 ((nI_ltI (a := (l).length - a8N l) (b := 4) (by omega) (by omega)).mpr zz_))
          refine WX.s1 rfl rfl ?_
          refine WX.s1 rfl rfl ?_
          refine WX.s1 rfl rfl ?_
          refine WX.s1 rfl rfl ?_
          refine WX.callC (vs := [.ref m, .int (nI (a8N l)), .int (nI 4)]) rfl rfl rfl (Nat.le_of_ble_eq_true rfl) ((M_hL).rcv hm) ?_
          refine m_word (d := d) hm M_hL hF hl hle (by omega) (by decide) ?_
          show WX _ _ _ 305 [(0, .ref m), (1, .long (-7046029288634856825)), (3, .long (-4417276706812531889)), (5, .long 1609587929392839161), (7, .long (-8796714831421723037)), (9, .long 2870177450012600261), (11, .long (h8L l)), (13, .int (nI (a8N l)))] [.long (wdL l (a8N l) 4), .long (h8L l)] (n, s, hL)
          refine WX.s1 rfl rfl ?_
          refine WX.s1 (S' := [.long ((wdL l (a8N l) 4) * (-7046029288634856825)), .long (h8L l)]) rfl rfl ?_
          refine WX.s1 (S' := [.long ((h8L l) ^^^ ((wdL l (a8N l) 4) * (-7046029288634856825)))]) rfl rfl ?_
          refine WX.s1 rfl rfl ?_
          refine WX.callC (vs := [.long ((h8L l) ^^^ ((wdL l (a8N l) 4) * (-7046029288634856825))), .int 23]) rfl rfl rfl (Nat.le_of_ble_eq_true rfl) rfl ?_
          refine m_rot (d := d)  ?_
          show WX _ _ _ 313 [(0, .ref m), (1, .long (-7046029288634856825)), (3, .long (-4417276706812531889)), (5, .long 1609587929392839161), (7, .long (-8796714831421723037)), (9, .long 2870177450012600261), (11, .long (h8L l)), (13, .int (nI (a8N l)))] [.long (rtL ((h8L l) ^^^ ((wdL l (a8N l) 4) * (-7046029288634856825))) 23)] (n, s, hL)
          refine WX.s1 rfl rfl ?_
          refine WX.s1 (S' := [.long ((rtL ((h8L l) ^^^ ((wdL l (a8N l) 4) * (-7046029288634856825))) 23) * (-4417276706812531889))]) rfl rfl ?_
          refine WX.s1 rfl rfl ?_
          refine WX.s1 (S' := [.long (((rtL ((h8L l) ^^^ ((wdL l (a8N l) 4) * (-7046029288634856825))) 23) * (-4417276706812531889)) + 1609587929392839161)]) rfl rfl ?_
          refine WX.s1 (L' := [(0, .ref m), (1, .long (-7046029288634856825)), (3, .long (-4417276706812531889)), (5, .long 1609587929392839161), (7, .long (-8796714831421723037)), (9, .long 2870177450012600261), (11, .long (((rtL ((h8L l) ^^^ ((wdL l (a8N l) 4) * (-7046029288634856825))) 23) * (-4417276706812531889)) + 1609587929392839161)), (13, .int (nI (a8N l)))]) rfl rfl ?_
          refine WX.s1 (L' := [(0, .ref m), (1, .long (-7046029288634856825)), (3, .long (-4417276706812531889)), (5, .long 1609587929392839161), (7, .long (-8796714831421723037)), (9, .long 2870177450012600261), (11, .long (((rtL ((h8L l) ^^^ ((wdL l (a8N l) 4) * (-7046029288634856825))) 23) * (-4417276706812531889)) + 1609587929392839161)), (13, .int ((nI (a8N l)) + 4))]) rfl rfl ?_
          rw [show ((nI (a8N l)) + 4) = nI (a8N l + 4) from nI_add (a8N l) 4]
          have e4 : a4N l = a8N l + 4 := by unfold a4N; rw [if_pos (by omega)]
          have e4h : h4L l = sm4 (h8L l) (wdL l (a8N l) 4) := by unfold h4L; rw [if_pos (by omega)]
          rw [e4, e4h] at t323
          exact t323
      | succ t ih =>
        intro j ht
        refine WX.s1 rfl rfl ?_
        refine WX.mgetK (x := (nI (l).length)) rfl hm M_hL rfl K_I_1 ?_
        refine WX.s1 rfl rfl ?_
        refine WX.s1 (S' := [.int ((nI (l).length) - (nI (32 * ((l).length / 32) + 8 * j)))]) rfl rfl ?_
        rw [nI_subN (by omega)]
        refine WX.s1 rfl rfl ?_
        refine WX.icmp rfl (fun c_244 => absurd c_244 (fun zz_ => absurd ((nI_ltI (a := (l).length - (32 * ((l).length / 32) + 8 * j)) (b := 8) (by omega) (by omega)).mp zz_) (Nat.not_lt.mpr (by omega)))) (fun c_244 => ?_)
        clear c_244
        refine WX.s1 rfl rfl ?_
        refine WX.s1 rfl rfl ?_
        refine WX.s1 rfl rfl ?_
        refine WX.s1 rfl rfl ?_
        refine WX.callC (vs := [.ref m, .int (nI (32 * ((l).length / 32) + 8 * j)), .int (nI 8)]) rfl rfl rfl (Nat.le_of_ble_eq_true rfl) ((M_hL).rcv hm) ?_
        refine m_word (d := d) hm M_hL hF hl hle (by omega) (by decide) ?_
        show WX _ _ _ 257 [(0, .ref m), (1, .long (-7046029288634856825)), (3, .long (-4417276706812531889)), (5, .long 1609587929392839161), (7, .long (-8796714831421723037)), (9, .long 2870177450012600261), (11, .long (e8L l (32 * ((l).length / 32)) (h0L l) j)), (13, .int (nI (32 * ((l).length / 32) + 8 * j)))] [.long (wdL l (32 * ((l).length / 32) + 8 * j) 8), .long (e8L l (32 * ((l).length / 32)) (h0L l) j)] (n, s, hL)
        refine WX.s1 rfl rfl ?_
        refine WX.s1 (S' := [.long ((wdL l (32 * ((l).length / 32) + 8 * j) 8) * (-4417276706812531889)), .long (e8L l (32 * ((l).length / 32)) (h0L l) j)]) rfl rfl ?_
        refine WX.s1 rfl rfl ?_
        refine WX.callC (vs := [.long ((wdL l (32 * ((l).length / 32) + 8 * j) 8) * (-4417276706812531889)), .int 31]) rfl rfl rfl (Nat.le_of_ble_eq_true rfl) rfl ?_
        refine m_rot (d := d)  ?_
        show WX _ _ _ 264 [(0, .ref m), (1, .long (-7046029288634856825)), (3, .long (-4417276706812531889)), (5, .long 1609587929392839161), (7, .long (-8796714831421723037)), (9, .long 2870177450012600261), (11, .long (e8L l (32 * ((l).length / 32)) (h0L l) j)), (13, .int (nI (32 * ((l).length / 32) + 8 * j)))] [.long (rtL ((wdL l (32 * ((l).length / 32) + 8 * j) 8) * (-4417276706812531889)) 31), .long (e8L l (32 * ((l).length / 32)) (h0L l) j)] (n, s, hL)
        refine WX.s1 rfl rfl ?_
        refine WX.s1 (S' := [.long ((rtL ((wdL l (32 * ((l).length / 32) + 8 * j) 8) * (-4417276706812531889)) 31) * (-7046029288634856825)), .long (e8L l (32 * ((l).length / 32)) (h0L l) j)]) rfl rfl ?_
        refine WX.s1 (S' := [.long ((e8L l (32 * ((l).length / 32)) (h0L l) j) ^^^ ((rtL ((wdL l (32 * ((l).length / 32) + 8 * j) 8) * (-4417276706812531889)) 31) * (-7046029288634856825)))]) rfl rfl ?_
        refine WX.s1 rfl rfl ?_
        refine WX.callC (vs := [.long ((e8L l (32 * ((l).length / 32)) (h0L l) j) ^^^ ((rtL ((wdL l (32 * ((l).length / 32) + 8 * j) 8) * (-4417276706812531889)) 31) * (-7046029288634856825))), .int 27]) rfl rfl rfl (Nat.le_of_ble_eq_true rfl) rfl ?_
        refine m_rot (d := d)  ?_
        show WX _ _ _ 272 [(0, .ref m), (1, .long (-7046029288634856825)), (3, .long (-4417276706812531889)), (5, .long 1609587929392839161), (7, .long (-8796714831421723037)), (9, .long 2870177450012600261), (11, .long (e8L l (32 * ((l).length / 32)) (h0L l) j)), (13, .int (nI (32 * ((l).length / 32) + 8 * j)))] [.long (rtL ((e8L l (32 * ((l).length / 32)) (h0L l) j) ^^^ ((rtL ((wdL l (32 * ((l).length / 32) + 8 * j) 8) * (-4417276706812531889)) 31) * (-7046029288634856825))) 27)] (n, s, hL)
        refine WX.s1 rfl rfl ?_
        refine WX.s1 (S' := [.long ((rtL ((e8L l (32 * ((l).length / 32)) (h0L l) j) ^^^ ((rtL ((wdL l (32 * ((l).length / 32) + 8 * j) 8) * (-4417276706812531889)) 31) * (-7046029288634856825))) 27) * (-7046029288634856825))]) rfl rfl ?_
        refine WX.s1 rfl rfl ?_
        refine WX.s1 (S' := [.long (((rtL ((e8L l (32 * ((l).length / 32)) (h0L l) j) ^^^ ((rtL ((wdL l (32 * ((l).length / 32) + 8 * j) 8) * (-4417276706812531889)) 31) * (-7046029288634856825))) 27) * (-7046029288634856825)) + (-8796714831421723037))]) rfl rfl ?_
        refine WX.s1 (L' := [(0, .ref m), (1, .long (-7046029288634856825)), (3, .long (-4417276706812531889)), (5, .long 1609587929392839161), (7, .long (-8796714831421723037)), (9, .long 2870177450012600261), (11, .long (((rtL ((e8L l (32 * ((l).length / 32)) (h0L l) j) ^^^ ((rtL ((wdL l (32 * ((l).length / 32) + 8 * j) 8) * (-4417276706812531889)) 31) * (-7046029288634856825))) 27) * (-7046029288634856825)) + (-8796714831421723037))), (13, .int (nI (32 * ((l).length / 32) + 8 * j)))]) rfl rfl ?_
        refine WX.s1 (L' := [(0, .ref m), (1, .long (-7046029288634856825)), (3, .long (-4417276706812531889)), (5, .long 1609587929392839161), (7, .long (-8796714831421723037)), (9, .long 2870177450012600261), (11, .long (((rtL ((e8L l (32 * ((l).length / 32)) (h0L l) j) ^^^ ((rtL ((wdL l (32 * ((l).length / 32) + 8 * j) 8) * (-4417276706812531889)) 31) * (-7046029288634856825))) 27) * (-7046029288634856825)) + (-8796714831421723037))), (13, .int ((nI (32 * ((l).length / 32) + 8 * j)) + 8))]) rfl rfl ?_
        rw [show ((nI (32 * ((l).length / 32) + 8 * j)) + 8) = nI (32 * ((l).length / 32) + 8 * j + 8) from nI_add (32 * ((l).length / 32) + 8 * j) 8]
        refine WX.s1 rfl rfl ?_
        rw [show 32 * ((l).length / 32) + 8 * j + 8 = (32 * ((l).length / 32) + 8 * (j + 1)) by omega]
        exact ih (j + 1) (by omega)
    exact lp ((l).length % 32 / 8) 0 (by omega)
  refine WX.s1 rfl rfl ?_
  refine WX.mgetK (x := (nI (l).length)) rfl hm M_h rfl K_I_1 ?_
  refine WX.s1 rfl rfl ?_
  refine WX.icmp rfl (fun c_36 => ?_) (fun c_36 => ?_)
  · skip
    have n_36 : (l).length < 32 := (nI_ltI (a := (l).length) (b := 32) (by omega) (by omega)).mp c_36
    exact t225 _ 0 _ _ (by unfold h0L; rw [if_pos (by omega)]) (by omega) M_h FR_h
  · skip
    have n_36 : 32 ≤ (l).length := Nat.le_of_not_lt (fun zz_ => c_36 ((nI_ltI (a := (l).length) (b := 32) (by omega) (by omega)).mpr zz_))
    refine WX.s1 rfl rfl ?_
    refine WX.mget rfl hm M_h rfl ?_
    refine WX.s1 rfl rfl ?_
    refine WX.s1 rfl rfl ?_
    refine WX.s1 rfl rfl ?_
    refine WX.s1 (S' := [.long ((-7046029288634856825) + (-4417276706812531889)), .int 0, .ref (m + 41)]) rfl rfl ?_
    refine WX.mlast rfl hm M_h (by unfold vp_in; decide) (fun h47n1 L47n1 e_L47n1 M_h47n1 frh47n1 => ?_)
    have FR_h47n1 := (FR_h).ztr frh47n1
    clear M_h FR_h frh47n1
    have z_L47n1 : L47n1 = vp_updL LN 0 ((-7046029288634856825) + (-4417276706812531889)) := e_L47n1
    clear e_L47n1
    refine WX.s1 rfl rfl ?_
    refine WX.mget rfl hm M_h47n1 rfl ?_
    refine WX.s1 rfl rfl ?_
    refine WX.s1 rfl rfl ?_
    refine WX.mlast rfl hm M_h47n1 (by unfold vp_in; decide) (fun h54n2 L54n2 e_L54n2 M_h54n2 frh54n2 => ?_)
    have FR_h54n2 := (FR_h47n1).ztr frh54n2
    clear M_h47n1 FR_h47n1 frh54n2
    have z_L54n2 : L54n2 = vp_updL L47n1 1 (-4417276706812531889) := e_L54n2
    clear e_L54n2
    refine WX.s1 rfl rfl ?_
    refine WX.mget rfl hm M_h54n2 rfl ?_
    refine WX.s1 rfl rfl ?_
    refine WX.s1 rfl rfl ?_
    refine WX.mlast rfl hm M_h54n2 (by unfold vp_in; decide) (fun h61n3 L61n3 e_L61n3 M_h61n3 frh61n3 => ?_)
    have FR_h61n3 := (FR_h54n2).ztr frh61n3
    clear M_h54n2 FR_h54n2 frh61n3
    have z_L61n3 : L61n3 = vp_updL L54n2 2 0 := e_L61n3
    clear e_L61n3
    refine WX.s1 rfl rfl ?_
    refine WX.mget rfl hm M_h61n3 rfl ?_
    refine WX.s1 rfl rfl ?_
    refine WX.s1 rfl rfl ?_
    refine WX.s1 rfl rfl ?_
    refine WX.s1 (S' := [.long (0 - (-7046029288634856825)), .int 3, .ref (m + 41)]) rfl rfl ?_
    refine WX.mlast rfl hm M_h61n3 (by unfold vp_in; decide) (fun h70n4 L70n4 e_L70n4 M_h70n4 frh70n4 => ?_)
    have FR_h70n4 := (FR_h61n3).ztr frh70n4
    clear M_h61n3 FR_h61n3 frh70n4
    have z_L70n4 : L70n4 = vp_updL L61n3 3 (0 - (-7046029288634856825)) := e_L70n4
    clear e_L70n4
    have y0 : L70n4 0 = (lnA l 0).1 := by rw [z_L70n4, upL_n (by decide), z_L61n3, upL_n (by decide), z_L54n2, upL_n (by decide), z_L47n1, upL_s]; show (-7046029288634856825 + -4417276706812531889 : Int64) = 6983438078262162902; decide
    have y1 : L70n4 1 = (lnA l 0).2.1 := by rw [z_L70n4, upL_n (by decide), z_L61n3, upL_n (by decide), z_L54n2, upL_s]; rfl
    have y2 : L70n4 2 = (lnA l 0).2.2.1 := by rw [z_L70n4, upL_n (by decide), z_L61n3, upL_s]; rfl
    have y3 : L70n4 3 = (lnA l 0).2.2.2 := by rw [z_L70n4, upL_s]; show (0 - -7046029288634856825 : Int64) = 7046029288634856825; decide
    clear z_L47n1 z_L54n2 z_L61n3 z_L70n4
    have lp : ∀ (t j : Nat) (hL : Nat → aE) (LL : Nat → Int64), j + t = ((l).length / 32) → MAt hL m I AR LL → Fr h hL (inM m) → (LL 0 = (lnA l j).1 ∧ LL 1 = (lnA l j).2.1 ∧ LL 2 = (lnA l j).2.2.1 ∧ LL 3 = (lnA l j).2.2.2) → WX (lk tX12_sum) (mM (d + 1)) Ψ 71 [(0, .ref m), (1, .long (-7046029288634856825)), (3, .long (-4417276706812531889)), (5, .long 1609587929392839161), (7, .long (-8796714831421723037)), (9, .long 2870177450012600261), (11, .long 2870177450012600261), (13, .int (nI (32 * j)))] [] (n, s, hL) := by
      clear M_h70n4 FR_h70n4
      intro t
      induction t with
      | zero =>
        intro j hL LL ht M_hL FR_hL hQ
        have ej : j = ((l).length / 32) := by omega
        rw [ej] at hQ ⊢
        refine WX.s1 rfl rfl ?_
        refine WX.mgetK (x := (nI (l).length)) rfl hm M_hL rfl K_I_1 ?_
        refine WX.s1 rfl rfl ?_
        refine WX.s1 (S' := [.int ((nI (l).length) - (nI (32 * ((l).length / 32))))]) rfl rfl ?_
        rw [nI_subN (by omega)]
        refine WX.s1 rfl rfl ?_
        refine WX.icmp rfl (fun c_80 => ?_) (fun c_80 => absurd ((nI_ltI (a := (l).length - 32 * ((l).length / 32)) (b := 32) (by omega) (by omega)).mpr (by omega)) c_80)
        clear c_80
        refine WX.s1 rfl rfl ?_
        refine WX.mget rfl hm M_hL rfl ?_
        refine WX.s1 rfl rfl ?_
        refine WX.mlald rfl hm M_hL (by unfold vp_in; decide) ?_
        rw [show LL (Int32.toNatClampNeg 0) = (lnA l ((l).length / 32)).1 from hQ.1]
        refine WX.s1 rfl rfl ?_
        refine WX.callC (vs := [.long ((lnA l ((l).length / 32)).1), .int 1]) rfl rfl rfl (Nat.le_of_ble_eq_true rfl) rfl ?_
        refine m_rot (d := d)  ?_
        show WX _ _ _ 146 [(0, .ref m), (1, .long (-7046029288634856825)), (3, .long (-4417276706812531889)), (5, .long 1609587929392839161), (7, .long (-8796714831421723037)), (9, .long 2870177450012600261), (11, .long 2870177450012600261), (13, .int (nI (32 * ((l).length / 32))))] [.long (rtL ((lnA l ((l).length / 32)).1) 1)] (n, s, hL)
        refine WX.s1 rfl rfl ?_
        refine WX.mget rfl hm M_hL rfl ?_
        refine WX.s1 rfl rfl ?_
        refine WX.mlald rfl hm M_hL (by unfold vp_in; decide) ?_
        rw [show LL (Int32.toNatClampNeg 1) = (lnA l ((l).length / 32)).2.1 from hQ.2.1]
        refine WX.s1 rfl rfl ?_
        refine WX.callC (vs := [.long ((lnA l ((l).length / 32)).2.1), .int 7]) rfl rfl rfl (Nat.le_of_ble_eq_true rfl) rfl ?_
        refine m_rot (d := d)  ?_
        show WX _ _ _ 157 [(0, .ref m), (1, .long (-7046029288634856825)), (3, .long (-4417276706812531889)), (5, .long 1609587929392839161), (7, .long (-8796714831421723037)), (9, .long 2870177450012600261), (11, .long 2870177450012600261), (13, .int (nI (32 * ((l).length / 32))))] [.long (rtL ((lnA l ((l).length / 32)).2.1) 7), .long (rtL ((lnA l ((l).length / 32)).1) 1)] (n, s, hL)
        refine WX.s1 (S' := [.long ((rtL ((lnA l ((l).length / 32)).1) 1) + (rtL ((lnA l ((l).length / 32)).2.1) 7))]) rfl rfl ?_
        refine WX.s1 rfl rfl ?_
        refine WX.mget rfl hm M_hL rfl ?_
        refine WX.s1 rfl rfl ?_
        refine WX.mlald rfl hm M_hL (by unfold vp_in; decide) ?_
        rw [show LL (Int32.toNatClampNeg 2) = (lnA l ((l).length / 32)).2.2.1 from hQ.2.2.1]
        refine WX.s1 rfl rfl ?_
        refine WX.callC (vs := [.long ((lnA l ((l).length / 32)).2.2.1), .int 12]) rfl rfl rfl (Nat.le_of_ble_eq_true rfl) rfl ?_
        refine m_rot (d := d)  ?_
        show WX _ _ _ 169 [(0, .ref m), (1, .long (-7046029288634856825)), (3, .long (-4417276706812531889)), (5, .long 1609587929392839161), (7, .long (-8796714831421723037)), (9, .long 2870177450012600261), (11, .long 2870177450012600261), (13, .int (nI (32 * ((l).length / 32))))] [.long (rtL ((lnA l ((l).length / 32)).2.2.1) 12), .long ((rtL ((lnA l ((l).length / 32)).1) 1) + (rtL ((lnA l ((l).length / 32)).2.1) 7))] (n, s, hL)
        refine WX.s1 (S' := [.long (((rtL ((lnA l ((l).length / 32)).1) 1) + (rtL ((lnA l ((l).length / 32)).2.1) 7)) + (rtL ((lnA l ((l).length / 32)).2.2.1) 12))]) rfl rfl ?_
        refine WX.s1 rfl rfl ?_
        refine WX.mget rfl hm M_hL rfl ?_
        refine WX.s1 rfl rfl ?_
        refine WX.mlald rfl hm M_hL (by unfold vp_in; decide) ?_
        rw [show LL (Int32.toNatClampNeg 3) = (lnA l ((l).length / 32)).2.2.2 from hQ.2.2.2]
        refine WX.s1 rfl rfl ?_
        refine WX.callC (vs := [.long ((lnA l ((l).length / 32)).2.2.2), .int 18]) rfl rfl rfl (Nat.le_of_ble_eq_true rfl) rfl ?_
        refine m_rot (d := d)  ?_
        show WX _ _ _ 181 [(0, .ref m), (1, .long (-7046029288634856825)), (3, .long (-4417276706812531889)), (5, .long 1609587929392839161), (7, .long (-8796714831421723037)), (9, .long 2870177450012600261), (11, .long 2870177450012600261), (13, .int (nI (32 * ((l).length / 32))))] [.long (rtL ((lnA l ((l).length / 32)).2.2.2) 18), .long (((rtL ((lnA l ((l).length / 32)).1) 1) + (rtL ((lnA l ((l).length / 32)).2.1) 7)) + (rtL ((lnA l ((l).length / 32)).2.2.1) 12))] (n, s, hL)
        refine WX.s1 (S' := [.long ((((rtL ((lnA l ((l).length / 32)).1) 1) + (rtL ((lnA l ((l).length / 32)).2.1) 7)) + (rtL ((lnA l ((l).length / 32)).2.2.1) 12)) + (rtL ((lnA l ((l).length / 32)).2.2.2) 18))]) rfl rfl ?_
        refine WX.s1 (L' := [(0, .ref m), (1, .long (-7046029288634856825)), (3, .long (-4417276706812531889)), (5, .long 1609587929392839161), (7, .long (-8796714831421723037)), (9, .long 2870177450012600261), (11, .long ((((rtL ((lnA l ((l).length / 32)).1) 1) + (rtL ((lnA l ((l).length / 32)).2.1) 7)) + (rtL ((lnA l ((l).length / 32)).2.2.1) 12)) + (rtL ((lnA l ((l).length / 32)).2.2.2) 18))), (13, .int (nI (32 * ((l).length / 32))))]) rfl rfl ?_
        refine WX.s1 rfl rfl ?_
        refine WX.s1 (L' := [(0, .ref m), (1, .long (-7046029288634856825)), (3, .long (-4417276706812531889)), (5, .long 1609587929392839161), (7, .long (-8796714831421723037)), (9, .long 2870177450012600261), (11, .long ((((rtL ((lnA l ((l).length / 32)).1) 1) + (rtL ((lnA l ((l).length / 32)).2.1) 7)) + (rtL ((lnA l ((l).length / 32)).2.2.1) 12)) + (rtL ((lnA l ((l).length / 32)).2.2.2) 18))), (13, .int (nI (32 * ((l).length / 32)))), (14, .int 0)]) rfl rfl ?_
        refine WX.s1 rfl rfl ?_
        refine WX.s1 rfl rfl ?_
        refine WX.icmp rfl (fun c_190 => absurd c_190 (by decide)) (fun c_190 => ?_)
        clear c_190
        refine WX.s1 rfl rfl ?_
        refine WX.s1 rfl rfl ?_
        refine WX.mget rfl hm M_hL rfl ?_
        refine WX.s1 rfl rfl ?_
        refine WX.mlald rfl hm M_hL (by unfold vp_in; decide) ?_
        rw [show LL (Int32.toNatClampNeg 0) = (lnA l ((l).length / 32)).1 from hQ.1]
        refine WX.s1 rfl rfl ?_
        refine WX.s1 (S' := [.long ((lnA l ((l).length / 32)).1 * (-4417276706812531889)), .long ((((rtL ((lnA l ((l).length / 32)).1) 1) + (rtL ((lnA l ((l).length / 32)).2.1) 7)) + (rtL ((lnA l ((l).length / 32)).2.2.1) 12)) + (rtL ((lnA l ((l).length / 32)).2.2.2) 18))]) rfl rfl ?_
        refine WX.s1 rfl rfl ?_
        refine WX.callC (vs := [.long ((lnA l ((l).length / 32)).1 * (-4417276706812531889)), .int 31]) rfl rfl rfl (Nat.le_of_ble_eq_true rfl) rfl ?_
        refine m_rot (d := d)  ?_
        show WX _ _ _ 209 [(0, .ref m), (1, .long (-7046029288634856825)), (3, .long (-4417276706812531889)), (5, .long 1609587929392839161), (7, .long (-8796714831421723037)), (9, .long 2870177450012600261), (11, .long ((((rtL ((lnA l ((l).length / 32)).1) 1) + (rtL ((lnA l ((l).length / 32)).2.1) 7)) + (rtL ((lnA l ((l).length / 32)).2.2.1) 12)) + (rtL ((lnA l ((l).length / 32)).2.2.2) 18))), (13, .int (nI (32 * ((l).length / 32)))), (14, .int 0)] [.long (rtL ((lnA l ((l).length / 32)).1 * (-4417276706812531889)) 31), .long ((((rtL ((lnA l ((l).length / 32)).1) 1) + (rtL ((lnA l ((l).length / 32)).2.1) 7)) + (rtL ((lnA l ((l).length / 32)).2.2.1) 12)) + (rtL ((lnA l ((l).length / 32)).2.2.2) 18))] (n, s, hL)
        refine WX.s1 rfl rfl ?_
        refine WX.s1 (S' := [.long ((rtL ((lnA l ((l).length / 32)).1 * (-4417276706812531889)) 31) * (-7046029288634856825)), .long ((((rtL ((lnA l ((l).length / 32)).1) 1) + (rtL ((lnA l ((l).length / 32)).2.1) 7)) + (rtL ((lnA l ((l).length / 32)).2.2.1) 12)) + (rtL ((lnA l ((l).length / 32)).2.2.2) 18))]) rfl rfl ?_
        refine WX.s1 (S' := [.long (((((rtL ((lnA l ((l).length / 32)).1) 1) + (rtL ((lnA l ((l).length / 32)).2.1) 7)) + (rtL ((lnA l ((l).length / 32)).2.2.1) 12)) + (rtL ((lnA l ((l).length / 32)).2.2.2) 18)) ^^^ ((rtL ((lnA l ((l).length / 32)).1 * (-4417276706812531889)) 31) * (-7046029288634856825)))]) rfl rfl ?_
        refine WX.s1 rfl rfl ?_
        refine WX.s1 (S' := [.long ((((((rtL ((lnA l ((l).length / 32)).1) 1) + (rtL ((lnA l ((l).length / 32)).2.1) 7)) + (rtL ((lnA l ((l).length / 32)).2.2.1) 12)) + (rtL ((lnA l ((l).length / 32)).2.2.2) 18)) ^^^ ((rtL ((lnA l ((l).length / 32)).1 * (-4417276706812531889)) 31) * (-7046029288634856825))) * (-7046029288634856825))]) rfl rfl ?_
        refine WX.s1 rfl rfl ?_
        refine WX.s1 (S' := [.long (((((((rtL ((lnA l ((l).length / 32)).1) 1) + (rtL ((lnA l ((l).length / 32)).2.1) 7)) + (rtL ((lnA l ((l).length / 32)).2.2.1) 12)) + (rtL ((lnA l ((l).length / 32)).2.2.2) 18)) ^^^ ((rtL ((lnA l ((l).length / 32)).1 * (-4417276706812531889)) 31) * (-7046029288634856825))) * (-7046029288634856825)) + (-8796714831421723037))]) rfl rfl ?_
        refine WX.s1 (L' := [(0, .ref m), (1, .long (-7046029288634856825)), (3, .long (-4417276706812531889)), (5, .long 1609587929392839161), (7, .long (-8796714831421723037)), (9, .long 2870177450012600261), (11, .long (((((((rtL ((lnA l ((l).length / 32)).1) 1) + (rtL ((lnA l ((l).length / 32)).2.1) 7)) + (rtL ((lnA l ((l).length / 32)).2.2.1) 12)) + (rtL ((lnA l ((l).length / 32)).2.2.2) 18)) ^^^ ((rtL ((lnA l ((l).length / 32)).1 * (-4417276706812531889)) 31) * (-7046029288634856825))) * (-7046029288634856825)) + (-8796714831421723037))), (13, .int (nI (32 * ((l).length / 32)))), (14, .int 0)]) rfl rfl ?_
        refine WX.s1 (L' := [(0, .ref m), (1, .long (-7046029288634856825)), (3, .long (-4417276706812531889)), (5, .long 1609587929392839161), (7, .long (-8796714831421723037)), (9, .long 2870177450012600261), (11, .long (((((((rtL ((lnA l ((l).length / 32)).1) 1) + (rtL ((lnA l ((l).length / 32)).2.1) 7)) + (rtL ((lnA l ((l).length / 32)).2.2.1) 12)) + (rtL ((lnA l ((l).length / 32)).2.2.2) 18)) ^^^ ((rtL ((lnA l ((l).length / 32)).1 * (-4417276706812531889)) 31) * (-7046029288634856825))) * (-7046029288634856825)) + (-8796714831421723037))), (13, .int (nI (32 * ((l).length / 32)))), (14, .int (0 + 1))]) rfl rfl ?_
        refine WX.s1 rfl rfl ?_
        refine WX.s1 rfl rfl ?_
        refine WX.s1 rfl rfl ?_
        refine WX.icmp rfl (fun c_190 => absurd c_190 (by decide)) (fun c_190 => ?_)
        clear c_190
        refine WX.s1 rfl rfl ?_
        refine WX.s1 rfl rfl ?_
        refine WX.mget rfl hm M_hL rfl ?_
        refine WX.s1 rfl rfl ?_
        refine WX.mlald rfl hm M_hL (by unfold vp_in; decide) ?_
        rw [show LL (Int32.toNatClampNeg (0 + 1)) = (lnA l ((l).length / 32)).2.1 from hQ.2.1]
        refine WX.s1 rfl rfl ?_
        refine WX.s1 (S' := [.long ((lnA l ((l).length / 32)).2.1 * (-4417276706812531889)), .long (((((((rtL ((lnA l ((l).length / 32)).1) 1) + (rtL ((lnA l ((l).length / 32)).2.1) 7)) + (rtL ((lnA l ((l).length / 32)).2.2.1) 12)) + (rtL ((lnA l ((l).length / 32)).2.2.2) 18)) ^^^ ((rtL ((lnA l ((l).length / 32)).1 * (-4417276706812531889)) 31) * (-7046029288634856825))) * (-7046029288634856825)) + (-8796714831421723037))]) rfl rfl ?_
        refine WX.s1 rfl rfl ?_
        refine WX.callC (vs := [.long ((lnA l ((l).length / 32)).2.1 * (-4417276706812531889)), .int 31]) rfl rfl rfl (Nat.le_of_ble_eq_true rfl) rfl ?_
        refine m_rot (d := d)  ?_
        show WX _ _ _ 209 [(0, .ref m), (1, .long (-7046029288634856825)), (3, .long (-4417276706812531889)), (5, .long 1609587929392839161), (7, .long (-8796714831421723037)), (9, .long 2870177450012600261), (11, .long (((((((rtL ((lnA l ((l).length / 32)).1) 1) + (rtL ((lnA l ((l).length / 32)).2.1) 7)) + (rtL ((lnA l ((l).length / 32)).2.2.1) 12)) + (rtL ((lnA l ((l).length / 32)).2.2.2) 18)) ^^^ ((rtL ((lnA l ((l).length / 32)).1 * (-4417276706812531889)) 31) * (-7046029288634856825))) * (-7046029288634856825)) + (-8796714831421723037))), (13, .int (nI (32 * ((l).length / 32)))), (14, .int (0 + 1))] [.long (rtL ((lnA l ((l).length / 32)).2.1 * (-4417276706812531889)) 31), .long (((((((rtL ((lnA l ((l).length / 32)).1) 1) + (rtL ((lnA l ((l).length / 32)).2.1) 7)) + (rtL ((lnA l ((l).length / 32)).2.2.1) 12)) + (rtL ((lnA l ((l).length / 32)).2.2.2) 18)) ^^^ ((rtL ((lnA l ((l).length / 32)).1 * (-4417276706812531889)) 31) * (-7046029288634856825))) * (-7046029288634856825)) + (-8796714831421723037))] (n, s, hL)
        refine WX.s1 rfl rfl ?_
        refine WX.s1 (S' := [.long ((rtL ((lnA l ((l).length / 32)).2.1 * (-4417276706812531889)) 31) * (-7046029288634856825)), .long (((((((rtL ((lnA l ((l).length / 32)).1) 1) + (rtL ((lnA l ((l).length / 32)).2.1) 7)) + (rtL ((lnA l ((l).length / 32)).2.2.1) 12)) + (rtL ((lnA l ((l).length / 32)).2.2.2) 18)) ^^^ ((rtL ((lnA l ((l).length / 32)).1 * (-4417276706812531889)) 31) * (-7046029288634856825))) * (-7046029288634856825)) + (-8796714831421723037))]) rfl rfl ?_
        refine WX.s1 (S' := [.long ((((((((rtL ((lnA l ((l).length / 32)).1) 1) + (rtL ((lnA l ((l).length / 32)).2.1) 7)) + (rtL ((lnA l ((l).length / 32)).2.2.1) 12)) + (rtL ((lnA l ((l).length / 32)).2.2.2) 18)) ^^^ ((rtL ((lnA l ((l).length / 32)).1 * (-4417276706812531889)) 31) * (-7046029288634856825))) * (-7046029288634856825)) + (-8796714831421723037)) ^^^ ((rtL ((lnA l ((l).length / 32)).2.1 * (-4417276706812531889)) 31) * (-7046029288634856825)))]) rfl rfl ?_
        refine WX.s1 rfl rfl ?_
        refine WX.s1 (S' := [.long (((((((((rtL ((lnA l ((l).length / 32)).1) 1) + (rtL ((lnA l ((l).length / 32)).2.1) 7)) + (rtL ((lnA l ((l).length / 32)).2.2.1) 12)) + (rtL ((lnA l ((l).length / 32)).2.2.2) 18)) ^^^ ((rtL ((lnA l ((l).length / 32)).1 * (-4417276706812531889)) 31) * (-7046029288634856825))) * (-7046029288634856825)) + (-8796714831421723037)) ^^^ ((rtL ((lnA l ((l).length / 32)).2.1 * (-4417276706812531889)) 31) * (-7046029288634856825))) * (-7046029288634856825))]) rfl rfl ?_
        refine WX.s1 rfl rfl ?_
        refine WX.s1 (S' := [.long ((((((((((rtL ((lnA l ((l).length / 32)).1) 1) + (rtL ((lnA l ((l).length / 32)).2.1) 7)) + (rtL ((lnA l ((l).length / 32)).2.2.1) 12)) + (rtL ((lnA l ((l).length / 32)).2.2.2) 18)) ^^^ ((rtL ((lnA l ((l).length / 32)).1 * (-4417276706812531889)) 31) * (-7046029288634856825))) * (-7046029288634856825)) + (-8796714831421723037)) ^^^ ((rtL ((lnA l ((l).length / 32)).2.1 * (-4417276706812531889)) 31) * (-7046029288634856825))) * (-7046029288634856825)) + (-8796714831421723037))]) rfl rfl ?_
        refine WX.s1 (L' := [(0, .ref m), (1, .long (-7046029288634856825)), (3, .long (-4417276706812531889)), (5, .long 1609587929392839161), (7, .long (-8796714831421723037)), (9, .long 2870177450012600261), (11, .long ((((((((((rtL ((lnA l ((l).length / 32)).1) 1) + (rtL ((lnA l ((l).length / 32)).2.1) 7)) + (rtL ((lnA l ((l).length / 32)).2.2.1) 12)) + (rtL ((lnA l ((l).length / 32)).2.2.2) 18)) ^^^ ((rtL ((lnA l ((l).length / 32)).1 * (-4417276706812531889)) 31) * (-7046029288634856825))) * (-7046029288634856825)) + (-8796714831421723037)) ^^^ ((rtL ((lnA l ((l).length / 32)).2.1 * (-4417276706812531889)) 31) * (-7046029288634856825))) * (-7046029288634856825)) + (-8796714831421723037))), (13, .int (nI (32 * ((l).length / 32)))), (14, .int (0 + 1))]) rfl rfl ?_
        refine WX.s1 (L' := [(0, .ref m), (1, .long (-7046029288634856825)), (3, .long (-4417276706812531889)), (5, .long 1609587929392839161), (7, .long (-8796714831421723037)), (9, .long 2870177450012600261), (11, .long ((((((((((rtL ((lnA l ((l).length / 32)).1) 1) + (rtL ((lnA l ((l).length / 32)).2.1) 7)) + (rtL ((lnA l ((l).length / 32)).2.2.1) 12)) + (rtL ((lnA l ((l).length / 32)).2.2.2) 18)) ^^^ ((rtL ((lnA l ((l).length / 32)).1 * (-4417276706812531889)) 31) * (-7046029288634856825))) * (-7046029288634856825)) + (-8796714831421723037)) ^^^ ((rtL ((lnA l ((l).length / 32)).2.1 * (-4417276706812531889)) 31) * (-7046029288634856825))) * (-7046029288634856825)) + (-8796714831421723037))), (13, .int (nI (32 * ((l).length / 32)))), (14, .int ((0 + 1) + 1))]) rfl rfl ?_
        refine WX.s1 rfl rfl ?_
        refine WX.s1 rfl rfl ?_
        refine WX.s1 rfl rfl ?_
        refine WX.icmp rfl (fun c_190 => absurd c_190 (by decide)) (fun c_190 => ?_)
        clear c_190
        refine WX.s1 rfl rfl ?_
        refine WX.s1 rfl rfl ?_
        refine WX.mget rfl hm M_hL rfl ?_
        refine WX.s1 rfl rfl ?_
        refine WX.mlald rfl hm M_hL (by unfold vp_in; decide) ?_
        rw [show LL (Int32.toNatClampNeg ((0 + 1) + 1)) = (lnA l ((l).length / 32)).2.2.1 from hQ.2.2.1]
        refine WX.s1 rfl rfl ?_
        refine WX.s1 (S' := [.long ((lnA l ((l).length / 32)).2.2.1 * (-4417276706812531889)), .long ((((((((((rtL ((lnA l ((l).length / 32)).1) 1) + (rtL ((lnA l ((l).length / 32)).2.1) 7)) + (rtL ((lnA l ((l).length / 32)).2.2.1) 12)) + (rtL ((lnA l ((l).length / 32)).2.2.2) 18)) ^^^ ((rtL ((lnA l ((l).length / 32)).1 * (-4417276706812531889)) 31) * (-7046029288634856825))) * (-7046029288634856825)) + (-8796714831421723037)) ^^^ ((rtL ((lnA l ((l).length / 32)).2.1 * (-4417276706812531889)) 31) * (-7046029288634856825))) * (-7046029288634856825)) + (-8796714831421723037))]) rfl rfl ?_
        refine WX.s1 rfl rfl ?_
        refine WX.callC (vs := [.long ((lnA l ((l).length / 32)).2.2.1 * (-4417276706812531889)), .int 31]) rfl rfl rfl (Nat.le_of_ble_eq_true rfl) rfl ?_
        refine m_rot (d := d)  ?_
        show WX _ _ _ 209 [(0, .ref m), (1, .long (-7046029288634856825)), (3, .long (-4417276706812531889)), (5, .long 1609587929392839161), (7, .long (-8796714831421723037)), (9, .long 2870177450012600261), (11, .long ((((((((((rtL ((lnA l ((l).length / 32)).1) 1) + (rtL ((lnA l ((l).length / 32)).2.1) 7)) + (rtL ((lnA l ((l).length / 32)).2.2.1) 12)) + (rtL ((lnA l ((l).length / 32)).2.2.2) 18)) ^^^ ((rtL ((lnA l ((l).length / 32)).1 * (-4417276706812531889)) 31) * (-7046029288634856825))) * (-7046029288634856825)) + (-8796714831421723037)) ^^^ ((rtL ((lnA l ((l).length / 32)).2.1 * (-4417276706812531889)) 31) * (-7046029288634856825))) * (-7046029288634856825)) + (-8796714831421723037))), (13, .int (nI (32 * ((l).length / 32)))), (14, .int ((0 + 1) + 1))] [.long (rtL ((lnA l ((l).length / 32)).2.2.1 * (-4417276706812531889)) 31), .long ((((((((((rtL ((lnA l ((l).length / 32)).1) 1) + (rtL ((lnA l ((l).length / 32)).2.1) 7)) + (rtL ((lnA l ((l).length / 32)).2.2.1) 12)) + (rtL ((lnA l ((l).length / 32)).2.2.2) 18)) ^^^ ((rtL ((lnA l ((l).length / 32)).1 * (-4417276706812531889)) 31) * (-7046029288634856825))) * (-7046029288634856825)) + (-8796714831421723037)) ^^^ ((rtL ((lnA l ((l).length / 32)).2.1 * (-4417276706812531889)) 31) * (-7046029288634856825))) * (-7046029288634856825)) + (-8796714831421723037))] (n, s, hL)
        refine WX.s1 rfl rfl ?_
        refine WX.s1 (S' := [.long ((rtL ((lnA l ((l).length / 32)).2.2.1 * (-4417276706812531889)) 31) * (-7046029288634856825)), .long ((((((((((rtL ((lnA l ((l).length / 32)).1) 1) + (rtL ((lnA l ((l).length / 32)).2.1) 7)) + (rtL ((lnA l ((l).length / 32)).2.2.1) 12)) + (rtL ((lnA l ((l).length / 32)).2.2.2) 18)) ^^^ ((rtL ((lnA l ((l).length / 32)).1 * (-4417276706812531889)) 31) * (-7046029288634856825))) * (-7046029288634856825)) + (-8796714831421723037)) ^^^ ((rtL ((lnA l ((l).length / 32)).2.1 * (-4417276706812531889)) 31) * (-7046029288634856825))) * (-7046029288634856825)) + (-8796714831421723037))]) rfl rfl ?_
        refine WX.s1 (S' := [.long (((((((((((rtL ((lnA l ((l).length / 32)).1) 1) + (rtL ((lnA l ((l).length / 32)).2.1) 7)) + (rtL ((lnA l ((l).length / 32)).2.2.1) 12)) + (rtL ((lnA l ((l).length / 32)).2.2.2) 18)) ^^^ ((rtL ((lnA l ((l).length / 32)).1 * (-4417276706812531889)) 31) * (-7046029288634856825))) * (-7046029288634856825)) + (-8796714831421723037)) ^^^ ((rtL ((lnA l ((l).length / 32)).2.1 * (-4417276706812531889)) 31) * (-7046029288634856825))) * (-7046029288634856825)) + (-8796714831421723037)) ^^^ ((rtL ((lnA l ((l).length / 32)).2.2.1 * (-4417276706812531889)) 31) * (-7046029288634856825)))]) rfl rfl ?_
        refine WX.s1 rfl rfl ?_
        refine WX.s1 (S' := [.long ((((((((((((rtL ((lnA l ((l).length / 32)).1) 1) + (rtL ((lnA l ((l).length / 32)).2.1) 7)) + (rtL ((lnA l ((l).length / 32)).2.2.1) 12)) + (rtL ((lnA l ((l).length / 32)).2.2.2) 18)) ^^^ ((rtL ((lnA l ((l).length / 32)).1 * (-4417276706812531889)) 31) * (-7046029288634856825))) * (-7046029288634856825)) + (-8796714831421723037)) ^^^ ((rtL ((lnA l ((l).length / 32)).2.1 * (-4417276706812531889)) 31) * (-7046029288634856825))) * (-7046029288634856825)) + (-8796714831421723037)) ^^^ ((rtL ((lnA l ((l).length / 32)).2.2.1 * (-4417276706812531889)) 31) * (-7046029288634856825))) * (-7046029288634856825))]) rfl rfl ?_
        refine WX.s1 rfl rfl ?_
        refine WX.s1 (S' := [.long (((((((((((((rtL ((lnA l ((l).length / 32)).1) 1) + (rtL ((lnA l ((l).length / 32)).2.1) 7)) + (rtL ((lnA l ((l).length / 32)).2.2.1) 12)) + (rtL ((lnA l ((l).length / 32)).2.2.2) 18)) ^^^ ((rtL ((lnA l ((l).length / 32)).1 * (-4417276706812531889)) 31) * (-7046029288634856825))) * (-7046029288634856825)) + (-8796714831421723037)) ^^^ ((rtL ((lnA l ((l).length / 32)).2.1 * (-4417276706812531889)) 31) * (-7046029288634856825))) * (-7046029288634856825)) + (-8796714831421723037)) ^^^ ((rtL ((lnA l ((l).length / 32)).2.2.1 * (-4417276706812531889)) 31) * (-7046029288634856825))) * (-7046029288634856825)) + (-8796714831421723037))]) rfl rfl ?_
        refine WX.s1 (L' := [(0, .ref m), (1, .long (-7046029288634856825)), (3, .long (-4417276706812531889)), (5, .long 1609587929392839161), (7, .long (-8796714831421723037)), (9, .long 2870177450012600261), (11, .long (((((((((((((rtL ((lnA l ((l).length / 32)).1) 1) + (rtL ((lnA l ((l).length / 32)).2.1) 7)) + (rtL ((lnA l ((l).length / 32)).2.2.1) 12)) + (rtL ((lnA l ((l).length / 32)).2.2.2) 18)) ^^^ ((rtL ((lnA l ((l).length / 32)).1 * (-4417276706812531889)) 31) * (-7046029288634856825))) * (-7046029288634856825)) + (-8796714831421723037)) ^^^ ((rtL ((lnA l ((l).length / 32)).2.1 * (-4417276706812531889)) 31) * (-7046029288634856825))) * (-7046029288634856825)) + (-8796714831421723037)) ^^^ ((rtL ((lnA l ((l).length / 32)).2.2.1 * (-4417276706812531889)) 31) * (-7046029288634856825))) * (-7046029288634856825)) + (-8796714831421723037))), (13, .int (nI (32 * ((l).length / 32)))), (14, .int ((0 + 1) + 1))]) rfl rfl ?_
        refine WX.s1 (L' := [(0, .ref m), (1, .long (-7046029288634856825)), (3, .long (-4417276706812531889)), (5, .long 1609587929392839161), (7, .long (-8796714831421723037)), (9, .long 2870177450012600261), (11, .long (((((((((((((rtL ((lnA l ((l).length / 32)).1) 1) + (rtL ((lnA l ((l).length / 32)).2.1) 7)) + (rtL ((lnA l ((l).length / 32)).2.2.1) 12)) + (rtL ((lnA l ((l).length / 32)).2.2.2) 18)) ^^^ ((rtL ((lnA l ((l).length / 32)).1 * (-4417276706812531889)) 31) * (-7046029288634856825))) * (-7046029288634856825)) + (-8796714831421723037)) ^^^ ((rtL ((lnA l ((l).length / 32)).2.1 * (-4417276706812531889)) 31) * (-7046029288634856825))) * (-7046029288634856825)) + (-8796714831421723037)) ^^^ ((rtL ((lnA l ((l).length / 32)).2.2.1 * (-4417276706812531889)) 31) * (-7046029288634856825))) * (-7046029288634856825)) + (-8796714831421723037))), (13, .int (nI (32 * ((l).length / 32)))), (14, .int (((0 + 1) + 1) + 1))]) rfl rfl ?_
        refine WX.s1 rfl rfl ?_
        refine WX.s1 rfl rfl ?_
        refine WX.s1 rfl rfl ?_
        refine WX.icmp rfl (fun c_190 => absurd c_190 (by decide)) (fun c_190 => ?_)
        clear c_190
        refine WX.s1 rfl rfl ?_
        refine WX.s1 rfl rfl ?_
        refine WX.mget rfl hm M_hL rfl ?_
        refine WX.s1 rfl rfl ?_
        refine WX.mlald rfl hm M_hL (by unfold vp_in; decide) ?_
        rw [show LL (Int32.toNatClampNeg (((0 + 1) + 1) + 1)) = (lnA l ((l).length / 32)).2.2.2 from hQ.2.2.2]
        refine WX.s1 rfl rfl ?_
        refine WX.s1 (S' := [.long ((lnA l ((l).length / 32)).2.2.2 * (-4417276706812531889)), .long (((((((((((((rtL ((lnA l ((l).length / 32)).1) 1) + (rtL ((lnA l ((l).length / 32)).2.1) 7)) + (rtL ((lnA l ((l).length / 32)).2.2.1) 12)) + (rtL ((lnA l ((l).length / 32)).2.2.2) 18)) ^^^ ((rtL ((lnA l ((l).length / 32)).1 * (-4417276706812531889)) 31) * (-7046029288634856825))) * (-7046029288634856825)) + (-8796714831421723037)) ^^^ ((rtL ((lnA l ((l).length / 32)).2.1 * (-4417276706812531889)) 31) * (-7046029288634856825))) * (-7046029288634856825)) + (-8796714831421723037)) ^^^ ((rtL ((lnA l ((l).length / 32)).2.2.1 * (-4417276706812531889)) 31) * (-7046029288634856825))) * (-7046029288634856825)) + (-8796714831421723037))]) rfl rfl ?_
        refine WX.s1 rfl rfl ?_
        refine WX.callC (vs := [.long ((lnA l ((l).length / 32)).2.2.2 * (-4417276706812531889)), .int 31]) rfl rfl rfl (Nat.le_of_ble_eq_true rfl) rfl ?_
        refine m_rot (d := d)  ?_
        show WX _ _ _ 209 [(0, .ref m), (1, .long (-7046029288634856825)), (3, .long (-4417276706812531889)), (5, .long 1609587929392839161), (7, .long (-8796714831421723037)), (9, .long 2870177450012600261), (11, .long (((((((((((((rtL ((lnA l ((l).length / 32)).1) 1) + (rtL ((lnA l ((l).length / 32)).2.1) 7)) + (rtL ((lnA l ((l).length / 32)).2.2.1) 12)) + (rtL ((lnA l ((l).length / 32)).2.2.2) 18)) ^^^ ((rtL ((lnA l ((l).length / 32)).1 * (-4417276706812531889)) 31) * (-7046029288634856825))) * (-7046029288634856825)) + (-8796714831421723037)) ^^^ ((rtL ((lnA l ((l).length / 32)).2.1 * (-4417276706812531889)) 31) * (-7046029288634856825))) * (-7046029288634856825)) + (-8796714831421723037)) ^^^ ((rtL ((lnA l ((l).length / 32)).2.2.1 * (-4417276706812531889)) 31) * (-7046029288634856825))) * (-7046029288634856825)) + (-8796714831421723037))), (13, .int (nI (32 * ((l).length / 32)))), (14, .int (((0 + 1) + 1) + 1))] [.long (rtL ((lnA l ((l).length / 32)).2.2.2 * (-4417276706812531889)) 31), .long (((((((((((((rtL ((lnA l ((l).length / 32)).1) 1) + (rtL ((lnA l ((l).length / 32)).2.1) 7)) + (rtL ((lnA l ((l).length / 32)).2.2.1) 12)) + (rtL ((lnA l ((l).length / 32)).2.2.2) 18)) ^^^ ((rtL ((lnA l ((l).length / 32)).1 * (-4417276706812531889)) 31) * (-7046029288634856825))) * (-7046029288634856825)) + (-8796714831421723037)) ^^^ ((rtL ((lnA l ((l).length / 32)).2.1 * (-4417276706812531889)) 31) * (-7046029288634856825))) * (-7046029288634856825)) + (-8796714831421723037)) ^^^ ((rtL ((lnA l ((l).length / 32)).2.2.1 * (-4417276706812531889)) 31) * (-7046029288634856825))) * (-7046029288634856825)) + (-8796714831421723037))] (n, s, hL)
        refine WX.s1 rfl rfl ?_
        refine WX.s1 (S' := [.long ((rtL ((lnA l ((l).length / 32)).2.2.2 * (-4417276706812531889)) 31) * (-7046029288634856825)), .long (((((((((((((rtL ((lnA l ((l).length / 32)).1) 1) + (rtL ((lnA l ((l).length / 32)).2.1) 7)) + (rtL ((lnA l ((l).length / 32)).2.2.1) 12)) + (rtL ((lnA l ((l).length / 32)).2.2.2) 18)) ^^^ ((rtL ((lnA l ((l).length / 32)).1 * (-4417276706812531889)) 31) * (-7046029288634856825))) * (-7046029288634856825)) + (-8796714831421723037)) ^^^ ((rtL ((lnA l ((l).length / 32)).2.1 * (-4417276706812531889)) 31) * (-7046029288634856825))) * (-7046029288634856825)) + (-8796714831421723037)) ^^^ ((rtL ((lnA l ((l).length / 32)).2.2.1 * (-4417276706812531889)) 31) * (-7046029288634856825))) * (-7046029288634856825)) + (-8796714831421723037))]) rfl rfl ?_
        refine WX.s1 (S' := [.long ((((((((((((((rtL ((lnA l ((l).length / 32)).1) 1) + (rtL ((lnA l ((l).length / 32)).2.1) 7)) + (rtL ((lnA l ((l).length / 32)).2.2.1) 12)) + (rtL ((lnA l ((l).length / 32)).2.2.2) 18)) ^^^ ((rtL ((lnA l ((l).length / 32)).1 * (-4417276706812531889)) 31) * (-7046029288634856825))) * (-7046029288634856825)) + (-8796714831421723037)) ^^^ ((rtL ((lnA l ((l).length / 32)).2.1 * (-4417276706812531889)) 31) * (-7046029288634856825))) * (-7046029288634856825)) + (-8796714831421723037)) ^^^ ((rtL ((lnA l ((l).length / 32)).2.2.1 * (-4417276706812531889)) 31) * (-7046029288634856825))) * (-7046029288634856825)) + (-8796714831421723037)) ^^^ ((rtL ((lnA l ((l).length / 32)).2.2.2 * (-4417276706812531889)) 31) * (-7046029288634856825)))]) rfl rfl ?_
        refine WX.s1 rfl rfl ?_
        refine WX.s1 (S' := [.long (((((((((((((((rtL ((lnA l ((l).length / 32)).1) 1) + (rtL ((lnA l ((l).length / 32)).2.1) 7)) + (rtL ((lnA l ((l).length / 32)).2.2.1) 12)) + (rtL ((lnA l ((l).length / 32)).2.2.2) 18)) ^^^ ((rtL ((lnA l ((l).length / 32)).1 * (-4417276706812531889)) 31) * (-7046029288634856825))) * (-7046029288634856825)) + (-8796714831421723037)) ^^^ ((rtL ((lnA l ((l).length / 32)).2.1 * (-4417276706812531889)) 31) * (-7046029288634856825))) * (-7046029288634856825)) + (-8796714831421723037)) ^^^ ((rtL ((lnA l ((l).length / 32)).2.2.1 * (-4417276706812531889)) 31) * (-7046029288634856825))) * (-7046029288634856825)) + (-8796714831421723037)) ^^^ ((rtL ((lnA l ((l).length / 32)).2.2.2 * (-4417276706812531889)) 31) * (-7046029288634856825))) * (-7046029288634856825))]) rfl rfl ?_
        refine WX.s1 rfl rfl ?_
        refine WX.s1 (S' := [.long ((((((((((((((((rtL ((lnA l ((l).length / 32)).1) 1) + (rtL ((lnA l ((l).length / 32)).2.1) 7)) + (rtL ((lnA l ((l).length / 32)).2.2.1) 12)) + (rtL ((lnA l ((l).length / 32)).2.2.2) 18)) ^^^ ((rtL ((lnA l ((l).length / 32)).1 * (-4417276706812531889)) 31) * (-7046029288634856825))) * (-7046029288634856825)) + (-8796714831421723037)) ^^^ ((rtL ((lnA l ((l).length / 32)).2.1 * (-4417276706812531889)) 31) * (-7046029288634856825))) * (-7046029288634856825)) + (-8796714831421723037)) ^^^ ((rtL ((lnA l ((l).length / 32)).2.2.1 * (-4417276706812531889)) 31) * (-7046029288634856825))) * (-7046029288634856825)) + (-8796714831421723037)) ^^^ ((rtL ((lnA l ((l).length / 32)).2.2.2 * (-4417276706812531889)) 31) * (-7046029288634856825))) * (-7046029288634856825)) + (-8796714831421723037))]) rfl rfl ?_
        refine WX.s1 (L' := [(0, .ref m), (1, .long (-7046029288634856825)), (3, .long (-4417276706812531889)), (5, .long 1609587929392839161), (7, .long (-8796714831421723037)), (9, .long 2870177450012600261), (11, .long ((((((((((((((((rtL ((lnA l ((l).length / 32)).1) 1) + (rtL ((lnA l ((l).length / 32)).2.1) 7)) + (rtL ((lnA l ((l).length / 32)).2.2.1) 12)) + (rtL ((lnA l ((l).length / 32)).2.2.2) 18)) ^^^ ((rtL ((lnA l ((l).length / 32)).1 * (-4417276706812531889)) 31) * (-7046029288634856825))) * (-7046029288634856825)) + (-8796714831421723037)) ^^^ ((rtL ((lnA l ((l).length / 32)).2.1 * (-4417276706812531889)) 31) * (-7046029288634856825))) * (-7046029288634856825)) + (-8796714831421723037)) ^^^ ((rtL ((lnA l ((l).length / 32)).2.2.1 * (-4417276706812531889)) 31) * (-7046029288634856825))) * (-7046029288634856825)) + (-8796714831421723037)) ^^^ ((rtL ((lnA l ((l).length / 32)).2.2.2 * (-4417276706812531889)) 31) * (-7046029288634856825))) * (-7046029288634856825)) + (-8796714831421723037))), (13, .int (nI (32 * ((l).length / 32)))), (14, .int (((0 + 1) + 1) + 1))]) rfl rfl ?_
        refine WX.s1 (L' := [(0, .ref m), (1, .long (-7046029288634856825)), (3, .long (-4417276706812531889)), (5, .long 1609587929392839161), (7, .long (-8796714831421723037)), (9, .long 2870177450012600261), (11, .long ((((((((((((((((rtL ((lnA l ((l).length / 32)).1) 1) + (rtL ((lnA l ((l).length / 32)).2.1) 7)) + (rtL ((lnA l ((l).length / 32)).2.2.1) 12)) + (rtL ((lnA l ((l).length / 32)).2.2.2) 18)) ^^^ ((rtL ((lnA l ((l).length / 32)).1 * (-4417276706812531889)) 31) * (-7046029288634856825))) * (-7046029288634856825)) + (-8796714831421723037)) ^^^ ((rtL ((lnA l ((l).length / 32)).2.1 * (-4417276706812531889)) 31) * (-7046029288634856825))) * (-7046029288634856825)) + (-8796714831421723037)) ^^^ ((rtL ((lnA l ((l).length / 32)).2.2.1 * (-4417276706812531889)) 31) * (-7046029288634856825))) * (-7046029288634856825)) + (-8796714831421723037)) ^^^ ((rtL ((lnA l ((l).length / 32)).2.2.2 * (-4417276706812531889)) 31) * (-7046029288634856825))) * (-7046029288634856825)) + (-8796714831421723037))), (13, .int (nI (32 * ((l).length / 32)))), (14, .int ((((0 + 1) + 1) + 1) + 1))]) rfl rfl ?_
        refine WX.s1 rfl rfl ?_
        refine WX.s1 rfl rfl ?_
        refine WX.s1 rfl rfl ?_
        refine WX.icmp rfl (fun c_190 => ?_) (fun c_190 => absurd (by decide) c_190)
        clear c_190
        refine WX.keep (y := 212) [0, 1, 3, 5, 7, 9, 11, 13] (show ([0, 1, 3, 5, 7, 9, 11, 13, 14] : List Nat).Nodup by decide) rfl ?_
        exact t225 _ _ _ _ (by unfold h0L; rw [if_neg (by omega)]; rfl) rfl M_hL FR_hL
      | succ t ih =>
        intro j hL LL ht M_hL FR_hL hQ
        refine WX.s1 rfl rfl ?_
        refine WX.mgetK (x := (nI (l).length)) rfl hm M_hL rfl K_I_1 ?_
        refine WX.s1 rfl rfl ?_
        refine WX.s1 (S' := [.int ((nI (l).length) - (nI (32 * j)))]) rfl rfl ?_
        rw [nI_subN (by omega)]
        refine WX.s1 rfl rfl ?_
        refine WX.icmp rfl (fun c_80 => absurd c_80 (fun zz_ => absurd ((nI_ltI (a := (l).length - 32 * j) (b := 32) (by omega) (by omega)).mp zz_) (Nat.not_lt.mpr (by omega)))) (fun c_80 => ?_)
        clear c_80
        refine WX.s1 rfl rfl ?_
        refine WX.s1 (L' := [(0, .ref m), (1, .long (-7046029288634856825)), (3, .long (-4417276706812531889)), (5, .long 1609587929392839161), (7, .long (-8796714831421723037)), (9, .long 2870177450012600261), (11, .long 2870177450012600261), (13, .int (nI (32 * j))), (14, .int 0)]) rfl rfl ?_
        refine WX.s1 rfl rfl ?_
        refine WX.s1 rfl rfl ?_
        refine WX.icmp rfl (fun c_89 => absurd c_89 (by decide)) (fun c_89 => ?_)
        clear c_89
        refine WX.s1 rfl rfl ?_
        refine WX.mget rfl hm M_hL rfl ?_
        refine WX.s1 rfl rfl ?_
        refine WX.s1 rfl rfl ?_
        refine WX.mget rfl hm M_hL rfl ?_
        refine WX.s1 rfl rfl ?_
        refine WX.mlald rfl hm M_hL (by unfold vp_in; decide) ?_
        have f_0 : LL 0 = (lnA l j).1 := by exact hQ.1
        rw [show LL (Int32.toNatClampNeg 0) = (lnA l j).1 from f_0]
        refine WX.s1 rfl rfl ?_
        refine WX.s1 rfl rfl ?_
        refine WX.s1 rfl rfl ?_
        refine WX.callC (vs := [.ref m, .int (nI (32 * j)), .int (nI 8)]) rfl rfl rfl (Nat.le_of_ble_eq_true rfl) ((M_hL).rcv hm) ?_
        refine m_word (d := d) hm M_hL hF hl hle (by omega) (by decide) ?_
        show WX _ _ _ 113 [(0, .ref m), (1, .long (-7046029288634856825)), (3, .long (-4417276706812531889)), (5, .long 1609587929392839161), (7, .long (-8796714831421723037)), (9, .long 2870177450012600261), (11, .long 2870177450012600261), (13, .int (nI (32 * j))), (14, .int 0)] [.long (wdL l (32 * j) 8), .long ((lnA l j).1), .int 0, .ref (m + 41)] (n, s, hL)
        refine WX.s1 rfl rfl ?_
        refine WX.s1 (S' := [.long ((wdL l (32 * j) 8) * (-4417276706812531889)), .long ((lnA l j).1), .int 0, .ref (m + 41)]) rfl rfl ?_
        refine WX.s1 (S' := [.long ((lnA l j).1 + ((wdL l (32 * j) 8) * (-4417276706812531889))), .int 0, .ref (m + 41)]) rfl rfl ?_
        refine WX.s1 rfl rfl ?_
        refine WX.callC (vs := [.long ((lnA l j).1 + ((wdL l (32 * j) 8) * (-4417276706812531889))), .int 31]) rfl rfl rfl (Nat.le_of_ble_eq_true rfl) rfl ?_
        refine m_rot (d := d)  ?_
        show WX _ _ _ 121 [(0, .ref m), (1, .long (-7046029288634856825)), (3, .long (-4417276706812531889)), (5, .long 1609587929392839161), (7, .long (-8796714831421723037)), (9, .long 2870177450012600261), (11, .long 2870177450012600261), (13, .int (nI (32 * j))), (14, .int 0)] [.long (rtL ((lnA l j).1 + ((wdL l (32 * j) 8) * (-4417276706812531889))) 31), .int 0, .ref (m + 41)] (n, s, hL)
        refine WX.s1 rfl rfl ?_
        refine WX.s1 (S' := [.long ((rtL ((lnA l j).1 + ((wdL l (32 * j) 8) * (-4417276706812531889))) 31) * (-7046029288634856825)), .int 0, .ref (m + 41)]) rfl rfl ?_
        refine WX.mlast rfl hm M_hL (by unfold vp_in; decide) (fun h123n5 L123n5 e_L123n5 M_h123n5 frh123n5 => ?_)
        have FR_h123n5 := (FR_hL).ztr frh123n5
        clear M_hL FR_hL frh123n5
        have z_L123n5 : L123n5 = vp_updL LL 0 ((rtL ((lnA l j).1 + ((wdL l (32 * j) 8) * (-4417276706812531889))) 31) * (-7046029288634856825)) := e_L123n5
        clear e_L123n5
        refine WX.s1 (L' := [(0, .ref m), (1, .long (-7046029288634856825)), (3, .long (-4417276706812531889)), (5, .long 1609587929392839161), (7, .long (-8796714831421723037)), (9, .long 2870177450012600261), (11, .long 2870177450012600261), (13, .int ((nI (32 * j)) + 8)), (14, .int 0)]) rfl rfl ?_
        rw [show ((nI (32 * j)) + 8) = nI (32 * j + 8) from nI_add (32 * j) 8]
        refine WX.s1 (L' := [(0, .ref m), (1, .long (-7046029288634856825)), (3, .long (-4417276706812531889)), (5, .long 1609587929392839161), (7, .long (-8796714831421723037)), (9, .long 2870177450012600261), (11, .long 2870177450012600261), (13, .int (nI (32 * j + 8))), (14, .int (0 + 1))]) rfl rfl ?_
        refine WX.s1 rfl rfl ?_
        refine WX.s1 rfl rfl ?_
        refine WX.s1 rfl rfl ?_
        refine WX.icmp rfl (fun c_89 => absurd c_89 (by decide)) (fun c_89 => ?_)
        clear c_89
        refine WX.s1 rfl rfl ?_
        refine WX.mget rfl hm M_h123n5 rfl ?_
        refine WX.s1 rfl rfl ?_
        refine WX.s1 rfl rfl ?_
        refine WX.mget rfl hm M_h123n5 rfl ?_
        refine WX.s1 rfl rfl ?_
        refine WX.mlald rfl hm M_h123n5 (by unfold vp_in; decide) ?_
        have f_1 : L123n5 1 = (lnA l j).2.1 := by rw [z_L123n5, upL_n (by decide)]; exact hQ.2.1
        rw [show L123n5 (Int32.toNatClampNeg (0 + 1)) = (lnA l j).2.1 from f_1]
        refine WX.s1 rfl rfl ?_
        refine WX.s1 rfl rfl ?_
        refine WX.s1 rfl rfl ?_
        refine WX.callC (vs := [.ref m, .int (nI (32 * j + 8)), .int (nI 8)]) rfl rfl rfl (Nat.le_of_ble_eq_true rfl) ((M_h123n5).rcv hm) ?_
        refine m_word (d := d) hm M_h123n5 hF hl hle (by omega) (by decide) ?_
        show WX _ _ _ 113 [(0, .ref m), (1, .long (-7046029288634856825)), (3, .long (-4417276706812531889)), (5, .long 1609587929392839161), (7, .long (-8796714831421723037)), (9, .long 2870177450012600261), (11, .long 2870177450012600261), (13, .int (nI (32 * j + 8))), (14, .int (0 + 1))] [.long (wdL l (32 * j + 8) 8), .long ((lnA l j).2.1), .int (0 + 1), .ref (m + 41)] (n, s, h123n5)
        refine WX.s1 rfl rfl ?_
        refine WX.s1 (S' := [.long ((wdL l (32 * j + 8) 8) * (-4417276706812531889)), .long ((lnA l j).2.1), .int (0 + 1), .ref (m + 41)]) rfl rfl ?_
        refine WX.s1 (S' := [.long ((lnA l j).2.1 + ((wdL l (32 * j + 8) 8) * (-4417276706812531889))), .int (0 + 1), .ref (m + 41)]) rfl rfl ?_
        refine WX.s1 rfl rfl ?_
        refine WX.callC (vs := [.long ((lnA l j).2.1 + ((wdL l (32 * j + 8) 8) * (-4417276706812531889))), .int 31]) rfl rfl rfl (Nat.le_of_ble_eq_true rfl) rfl ?_
        refine m_rot (d := d)  ?_
        show WX _ _ _ 121 [(0, .ref m), (1, .long (-7046029288634856825)), (3, .long (-4417276706812531889)), (5, .long 1609587929392839161), (7, .long (-8796714831421723037)), (9, .long 2870177450012600261), (11, .long 2870177450012600261), (13, .int (nI (32 * j + 8))), (14, .int (0 + 1))] [.long (rtL ((lnA l j).2.1 + ((wdL l (32 * j + 8) 8) * (-4417276706812531889))) 31), .int (0 + 1), .ref (m + 41)] (n, s, h123n5)
        refine WX.s1 rfl rfl ?_
        refine WX.s1 (S' := [.long ((rtL ((lnA l j).2.1 + ((wdL l (32 * j + 8) 8) * (-4417276706812531889))) 31) * (-7046029288634856825)), .int (0 + 1), .ref (m + 41)]) rfl rfl ?_
        refine WX.mlast rfl hm M_h123n5 (by unfold vp_in; decide) (fun h123n6 L123n6 e_L123n6 M_h123n6 frh123n6 => ?_)
        have FR_h123n6 := (FR_h123n5).ztr frh123n6
        clear M_h123n5 FR_h123n5 frh123n6
        have z_L123n6 : L123n6 = vp_updL L123n5 1 ((rtL ((lnA l j).2.1 + ((wdL l (32 * j + 8) 8) * (-4417276706812531889))) 31) * (-7046029288634856825)) := e_L123n6
        clear e_L123n6
        refine WX.s1 (L' := [(0, .ref m), (1, .long (-7046029288634856825)), (3, .long (-4417276706812531889)), (5, .long 1609587929392839161), (7, .long (-8796714831421723037)), (9, .long 2870177450012600261), (11, .long 2870177450012600261), (13, .int ((nI (32 * j + 8)) + 8)), (14, .int (0 + 1))]) rfl rfl ?_
        rw [show ((nI (32 * j + 8)) + 8) = nI (32 * j + 8 + 8) from nI_add (32 * j + 8) 8]
        rw [show 32 * j + 8 + 8 = 32 * j + 16 from rfl]
        refine WX.s1 (L' := [(0, .ref m), (1, .long (-7046029288634856825)), (3, .long (-4417276706812531889)), (5, .long 1609587929392839161), (7, .long (-8796714831421723037)), (9, .long 2870177450012600261), (11, .long 2870177450012600261), (13, .int (nI (32 * j + 16))), (14, .int ((0 + 1) + 1))]) rfl rfl ?_
        refine WX.s1 rfl rfl ?_
        refine WX.s1 rfl rfl ?_
        refine WX.s1 rfl rfl ?_
        refine WX.icmp rfl (fun c_89 => absurd c_89 (by decide)) (fun c_89 => ?_)
        clear c_89
        refine WX.s1 rfl rfl ?_
        refine WX.mget rfl hm M_h123n6 rfl ?_
        refine WX.s1 rfl rfl ?_
        refine WX.s1 rfl rfl ?_
        refine WX.mget rfl hm M_h123n6 rfl ?_
        refine WX.s1 rfl rfl ?_
        refine WX.mlald rfl hm M_h123n6 (by unfold vp_in; decide) ?_
        have f_2 : L123n6 2 = (lnA l j).2.2.1 := by rw [z_L123n6, upL_n (by decide), z_L123n5, upL_n (by decide)]; exact hQ.2.2.1
        rw [show L123n6 (Int32.toNatClampNeg ((0 + 1) + 1)) = (lnA l j).2.2.1 from f_2]
        refine WX.s1 rfl rfl ?_
        refine WX.s1 rfl rfl ?_
        refine WX.s1 rfl rfl ?_
        refine WX.callC (vs := [.ref m, .int (nI (32 * j + 16)), .int (nI 8)]) rfl rfl rfl (Nat.le_of_ble_eq_true rfl) ((M_h123n6).rcv hm) ?_
        refine m_word (d := d) hm M_h123n6 hF hl hle (by omega) (by decide) ?_
        show WX _ _ _ 113 [(0, .ref m), (1, .long (-7046029288634856825)), (3, .long (-4417276706812531889)), (5, .long 1609587929392839161), (7, .long (-8796714831421723037)), (9, .long 2870177450012600261), (11, .long 2870177450012600261), (13, .int (nI (32 * j + 16))), (14, .int ((0 + 1) + 1))] [.long (wdL l (32 * j + 16) 8), .long ((lnA l j).2.2.1), .int ((0 + 1) + 1), .ref (m + 41)] (n, s, h123n6)
        refine WX.s1 rfl rfl ?_
        refine WX.s1 (S' := [.long ((wdL l (32 * j + 16) 8) * (-4417276706812531889)), .long ((lnA l j).2.2.1), .int ((0 + 1) + 1), .ref (m + 41)]) rfl rfl ?_
        refine WX.s1 (S' := [.long ((lnA l j).2.2.1 + ((wdL l (32 * j + 16) 8) * (-4417276706812531889))), .int ((0 + 1) + 1), .ref (m + 41)]) rfl rfl ?_
        refine WX.s1 rfl rfl ?_
        refine WX.callC (vs := [.long ((lnA l j).2.2.1 + ((wdL l (32 * j + 16) 8) * (-4417276706812531889))), .int 31]) rfl rfl rfl (Nat.le_of_ble_eq_true rfl) rfl ?_
        refine m_rot (d := d)  ?_
        show WX _ _ _ 121 [(0, .ref m), (1, .long (-7046029288634856825)), (3, .long (-4417276706812531889)), (5, .long 1609587929392839161), (7, .long (-8796714831421723037)), (9, .long 2870177450012600261), (11, .long 2870177450012600261), (13, .int (nI (32 * j + 16))), (14, .int ((0 + 1) + 1))] [.long (rtL ((lnA l j).2.2.1 + ((wdL l (32 * j + 16) 8) * (-4417276706812531889))) 31), .int ((0 + 1) + 1), .ref (m + 41)] (n, s, h123n6)
        refine WX.s1 rfl rfl ?_
        refine WX.s1 (S' := [.long ((rtL ((lnA l j).2.2.1 + ((wdL l (32 * j + 16) 8) * (-4417276706812531889))) 31) * (-7046029288634856825)), .int ((0 + 1) + 1), .ref (m + 41)]) rfl rfl ?_
        refine WX.mlast rfl hm M_h123n6 (by unfold vp_in; decide) (fun h123n7 L123n7 e_L123n7 M_h123n7 frh123n7 => ?_)
        have FR_h123n7 := (FR_h123n6).ztr frh123n7
        clear M_h123n6 FR_h123n6 frh123n7
        have z_L123n7 : L123n7 = vp_updL L123n6 2 ((rtL ((lnA l j).2.2.1 + ((wdL l (32 * j + 16) 8) * (-4417276706812531889))) 31) * (-7046029288634856825)) := e_L123n7
        clear e_L123n7
        refine WX.s1 (L' := [(0, .ref m), (1, .long (-7046029288634856825)), (3, .long (-4417276706812531889)), (5, .long 1609587929392839161), (7, .long (-8796714831421723037)), (9, .long 2870177450012600261), (11, .long 2870177450012600261), (13, .int ((nI (32 * j + 16)) + 8)), (14, .int ((0 + 1) + 1))]) rfl rfl ?_
        rw [show ((nI (32 * j + 16)) + 8) = nI (32 * j + 16 + 8) from nI_add (32 * j + 16) 8]
        rw [show 32 * j + 16 + 8 = 32 * j + 24 from rfl]
        refine WX.s1 (L' := [(0, .ref m), (1, .long (-7046029288634856825)), (3, .long (-4417276706812531889)), (5, .long 1609587929392839161), (7, .long (-8796714831421723037)), (9, .long 2870177450012600261), (11, .long 2870177450012600261), (13, .int (nI (32 * j + 24))), (14, .int (((0 + 1) + 1) + 1))]) rfl rfl ?_
        refine WX.s1 rfl rfl ?_
        refine WX.s1 rfl rfl ?_
        refine WX.s1 rfl rfl ?_
        refine WX.icmp rfl (fun c_89 => absurd c_89 (by decide)) (fun c_89 => ?_)
        clear c_89
        refine WX.s1 rfl rfl ?_
        refine WX.mget rfl hm M_h123n7 rfl ?_
        refine WX.s1 rfl rfl ?_
        refine WX.s1 rfl rfl ?_
        refine WX.mget rfl hm M_h123n7 rfl ?_
        refine WX.s1 rfl rfl ?_
        refine WX.mlald rfl hm M_h123n7 (by unfold vp_in; decide) ?_
        have f_3 : L123n7 3 = (lnA l j).2.2.2 := by rw [z_L123n7, upL_n (by decide), z_L123n6, upL_n (by decide), z_L123n5, upL_n (by decide)]; exact hQ.2.2.2
        rw [show L123n7 (Int32.toNatClampNeg (((0 + 1) + 1) + 1)) = (lnA l j).2.2.2 from f_3]
        refine WX.s1 rfl rfl ?_
        refine WX.s1 rfl rfl ?_
        refine WX.s1 rfl rfl ?_
        refine WX.callC (vs := [.ref m, .int (nI (32 * j + 24)), .int (nI 8)]) rfl rfl rfl (Nat.le_of_ble_eq_true rfl) ((M_h123n7).rcv hm) ?_
        refine m_word (d := d) hm M_h123n7 hF hl hle (by omega) (by decide) ?_
        show WX _ _ _ 113 [(0, .ref m), (1, .long (-7046029288634856825)), (3, .long (-4417276706812531889)), (5, .long 1609587929392839161), (7, .long (-8796714831421723037)), (9, .long 2870177450012600261), (11, .long 2870177450012600261), (13, .int (nI (32 * j + 24))), (14, .int (((0 + 1) + 1) + 1))] [.long (wdL l (32 * j + 24) 8), .long ((lnA l j).2.2.2), .int (((0 + 1) + 1) + 1), .ref (m + 41)] (n, s, h123n7)
        refine WX.s1 rfl rfl ?_
        refine WX.s1 (S' := [.long ((wdL l (32 * j + 24) 8) * (-4417276706812531889)), .long ((lnA l j).2.2.2), .int (((0 + 1) + 1) + 1), .ref (m + 41)]) rfl rfl ?_
        refine WX.s1 (S' := [.long ((lnA l j).2.2.2 + ((wdL l (32 * j + 24) 8) * (-4417276706812531889))), .int (((0 + 1) + 1) + 1), .ref (m + 41)]) rfl rfl ?_
        refine WX.s1 rfl rfl ?_
        refine WX.callC (vs := [.long ((lnA l j).2.2.2 + ((wdL l (32 * j + 24) 8) * (-4417276706812531889))), .int 31]) rfl rfl rfl (Nat.le_of_ble_eq_true rfl) rfl ?_
        refine m_rot (d := d)  ?_
        show WX _ _ _ 121 [(0, .ref m), (1, .long (-7046029288634856825)), (3, .long (-4417276706812531889)), (5, .long 1609587929392839161), (7, .long (-8796714831421723037)), (9, .long 2870177450012600261), (11, .long 2870177450012600261), (13, .int (nI (32 * j + 24))), (14, .int (((0 + 1) + 1) + 1))] [.long (rtL ((lnA l j).2.2.2 + ((wdL l (32 * j + 24) 8) * (-4417276706812531889))) 31), .int (((0 + 1) + 1) + 1), .ref (m + 41)] (n, s, h123n7)
        refine WX.s1 rfl rfl ?_
        refine WX.s1 (S' := [.long ((rtL ((lnA l j).2.2.2 + ((wdL l (32 * j + 24) 8) * (-4417276706812531889))) 31) * (-7046029288634856825)), .int (((0 + 1) + 1) + 1), .ref (m + 41)]) rfl rfl ?_
        refine WX.mlast rfl hm M_h123n7 (by unfold vp_in; decide) (fun h123n8 L123n8 e_L123n8 M_h123n8 frh123n8 => ?_)
        have FR_h123n8 := (FR_h123n7).ztr frh123n8
        clear M_h123n7 FR_h123n7 frh123n8
        have z_L123n8 : L123n8 = vp_updL L123n7 3 ((rtL ((lnA l j).2.2.2 + ((wdL l (32 * j + 24) 8) * (-4417276706812531889))) 31) * (-7046029288634856825)) := e_L123n8
        clear e_L123n8
        refine WX.s1 (L' := [(0, .ref m), (1, .long (-7046029288634856825)), (3, .long (-4417276706812531889)), (5, .long 1609587929392839161), (7, .long (-8796714831421723037)), (9, .long 2870177450012600261), (11, .long 2870177450012600261), (13, .int ((nI (32 * j + 24)) + 8)), (14, .int (((0 + 1) + 1) + 1))]) rfl rfl ?_
        rw [show ((nI (32 * j + 24)) + 8) = nI (32 * j + 24 + 8) from nI_add (32 * j + 24) 8]
        rw [show 32 * j + 24 + 8 = 32 * j + 32 from rfl]
        refine WX.s1 (L' := [(0, .ref m), (1, .long (-7046029288634856825)), (3, .long (-4417276706812531889)), (5, .long 1609587929392839161), (7, .long (-8796714831421723037)), (9, .long 2870177450012600261), (11, .long 2870177450012600261), (13, .int (nI (32 * j + 32))), (14, .int ((((0 + 1) + 1) + 1) + 1))]) rfl rfl ?_
        refine WX.s1 rfl rfl ?_
        refine WX.s1 rfl rfl ?_
        refine WX.s1 rfl rfl ?_
        refine WX.icmp rfl (fun c_89 => ?_) (fun c_89 => absurd (by decide) c_89)
        clear c_89
        refine WX.s1 rfl rfl ?_
        have y0 : L123n8 0 = ((rtL ((lnA l j).1 + ((wdL l (32 * j) 8) * (-4417276706812531889))) 31) * (-7046029288634856825)) := by rw [z_L123n8, upL_n (by decide), z_L123n7, upL_n (by decide), z_L123n6, upL_n (by decide), z_L123n5, upL_s]
        have y1 : L123n8 1 = ((rtL ((lnA l j).2.1 + ((wdL l (32 * j + 8) 8) * (-4417276706812531889))) 31) * (-7046029288634856825)) := by rw [z_L123n8, upL_n (by decide), z_L123n7, upL_n (by decide), z_L123n6, upL_s]
        have y2 : L123n8 2 = ((rtL ((lnA l j).2.2.1 + ((wdL l (32 * j + 16) 8) * (-4417276706812531889))) 31) * (-7046029288634856825)) := by rw [z_L123n8, upL_n (by decide), z_L123n7, upL_s]
        have y3 : L123n8 3 = ((rtL ((lnA l j).2.2.2 + ((wdL l (32 * j + 24) 8) * (-4417276706812531889))) 31) * (-7046029288634856825)) := by rw [z_L123n8, upL_s]
        refine WX.keep (y := 212) [0, 1, 3, 5, 7, 9, 11, 13] (show ([0, 1, 3, 5, 7, 9, 11, 13, 14] : List Nat).Nodup by decide) rfl ?_
        rw [show 32 * j + 32 = 32 * (j + 1) by omega]
        exact ih (j + 1) h123n8 L123n8 (by omega) M_h123n8 FR_h123n8 ⟨y0, y1, y2, y3⟩
    exact lp ((l).length / 32) 0 h70n4 L70n4 (by omega) M_h70n4 FR_h70n4 ⟨y0, y1, y2, y3⟩
