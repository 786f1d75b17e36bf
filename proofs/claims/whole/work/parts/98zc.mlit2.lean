/-! the reference: streams put, heads said -/
def MadeY (I : Nat → Int32) (A : Nat → Nat → Int32) (y : List Nat) : Prop := ∃ w, MadeIs I A (8 * y.length) w ∧ leBy w y.length = y
theorem MadeY.fa {I J : Nat → Int32} {A B : Nat → Nat → Int32} {y : List Nat} (F : MadeY I A y) (h1 : J 38 = I 38) (h2 : B 24 = A 24) : MadeY J B y := by
  obtain ⟨w, a, b⟩ := F
  exact ⟨w, a.fa h1 h2, b⟩
theorem MadeY.nil {I : Nat → Int32} {A : Nat → Nat → Int32} (M : MadeIs I A 0 0) : MadeY I A [] := ⟨0, M, rfl⟩
theorem sY_al {L : Nat → Nat} {t f k m w : Nat} {ls : List Nat} (hw : w < 2 ^ (8 * m)) : 8 * (((sB L t ls f k (8 * m, w)).1 + 1 + 7) / 8) = 8 * (m + ((sB L t ls f k (0, 0)).1 / 8 + 1)) ∧ leBy ((sB L t ls f k (8 * m, w)).2 + 2 ^ (sB L t ls f k (8 * m, w)).1) (m + ((sB L t ls f k (0, 0)).1 / 8 + 1)) = leBy w m ++ sY L t ls f k := by
  have h := sB_sh L t ls f (8 * m) w k 0 0
  rw [Nat.add_zero, Nat.zero_mul, Nat.add_zero] at h
  rw [h]
  refine ⟨by show 8 * ((8 * m + (sB L t ls f k (0, 0)).1 + 1 + 7) / 8) = _; omega, ?_⟩
  show leBy (w + (sB L t ls f k (0, 0)).2 * 2 ^ (8 * m) + 2 ^ (8 * m + (sB L t ls f k (0, 0)).1)) _ = _
  rw [Nat.pow_add, Nat.mul_comm (2 ^ (8 * m)) (2 ^ _), Nat.add_assoc, ← Nat.add_mul]
  exact leBy_app hw _ _
def Alk (ls : List Nat) : Prop := ls ≠ [] ∧ ∀ s, s ∈ ls → s = ls.getD 0 0
def RefL (I : Nat → Int32) (A : Nat → Nat → Int32) : Option Le → Prop
  | none => I 15 = 0
  | some t => I 15 = nI t.2 ∧ ∀ s, s < 256 → A 8 s = nI (t.1 s)
noncomputable def frY (L : Nat → Nat) (t : Nat) (ls : List Nat) : List Nat := leBy (stb L ls (0 * ((ls.length + 3) / 4)) (0 * ((ls.length + 3) / 4) + (ls.length + 3) / 4)) 2 ++ (leBy (stb L ls (1 * ((ls.length + 3) / 4)) (1 * ((ls.length + 3) / 4) + (ls.length + 3) / 4)) 2 ++ (leBy (stb L ls (2 * ((ls.length + 3) / 4)) (2 * ((ls.length + 3) / 4) + (ls.length + 3) / 4)) 2 ++ (sY L t ls (0 * ((ls.length + 3) / 4)) ((ls.length + 3) / 4) ++ (sY L t ls (1 * ((ls.length + 3) / 4)) ((ls.length + 3) / 4) ++ (sY L t ls (2 * ((ls.length + 3) / 4)) ((ls.length + 3) / 4) ++ sY L t ls (3 * ((ls.length + 3) / 4)) (ls.length - 3 * ((ls.length + 3) / 4)))))))
theorem MadeY.num {I J : Nat → Int32} {A B : Nat → Nat → Int32} {y : List Nat} {x k c w : Nat} (hy : leBy w y.length = y) (hw : w < 2 ^ (8 * y.length)) (hx : x < 2 ^ (8 * k)) (hc : c = 8 * y.length) (M : MadeIs J B (c + 8 * k) (w + x % 2 ^ (8 * k) * 2 ^ c)) : MadeY J B (y ++ leBy x k) := by
  subst hc
  rw [Nat.mod_eq_of_lt hx] at M
  refine ⟨w + x * 2 ^ (8 * y.length), ?_, ?_⟩
  · rw [List.length_append, leBy_len, Nat.mul_add]; exact M
  · rw [List.length_append, leBy_len, leBy_app hw, hy]
set_option maxRecDepth 20000 in
theorem m_pst {d n s : Nat} {h : Nat → aE} {m : Nat} {I : Nat → Int32} {AR : Nat → Nat → Int32} {LN : Nat → Int64} {ls : List Nat} {L : Nat → Nat} {t f e : Nat} {y : List Nat} (hm : m + 43 < n) (M_h : MAt h m I AR LN) (hL : LitM I AR ls) (hls : LsOk ls) (hok : LenOk L t) (hLn : ∀ s, s < 256 → AR 8 s = nI (L s)) (hlz : ∀ s, s ∈ ls → L s ≠ 0) (hC : CeM AR L t) (hfe : f ≤ e) (hel : e ≤ ls.length) (hY : MadeY I AR y) (hyl : 8 * y.length + 11 * 8000 + 16 ≤ 192000) (K_I_15 : I 15 = (nI t)) {Ψ : Option Value → aH → Prop} (kk : ∀ h' I' A', Fr h h' (inM m) → MAt h' m I' A' LN → Fi I I' (fun f => f = 38) → Fa AR A' 24 → MadeY I' A' (y ++ sY L t ls f (e - f)) → Ψ none (n, s, h')) : WO (mM (d + 2)) 189 [.ref m, .int (nI f), .int (nI e)] (n, s, h) Ψ := by
  refine WO.of (Nat.le_of_ble_eq_true rfl) ?_
  have FR_h : Fr h h (inM m) := Fr.rf
  have FI_I : Fi I I (fun f => f = 38) := Fi.rf
  have FA_AR : Fa AR AR 24 := Fa.rf
  have hlen := hls.2
  obtain ⟨w0, hM0, hy0⟩ := hY
  have hw0 := hM0.2.2.1
  have ht2 := hok.2.1
  show WX (lk tX12_putStream) (mM (d + 1)) Ψ 0 [(0, .ref m), (1, .int (nI f)), (2, .int (nI e))] [] (n, s, h)
  refine WX.s1 rfl rfl ?_
  refine WX.s1 rfl rfl ?_
  refine WX.s1 (S' := [.int ((nI e) - 1)]) rfl rfl ?_
  refine WX.s1 (L' := [(0, .ref m), (1, .int (nI f)), (2, .int (nI e)), (3, .int ((nI e) - 1))]) rfl rfl ?_
  have lp : ∀ (i : Nat) (b : Nat × Nat) (hL_ : Nat → aE) (IL : Nat → Int32) (AL : Nat → Nat → Int32), f + i ≤ e → Fr h hL_ (inM m) → MAt hL_ m IL AL LN → Fi I IL (fun f => f = 38) → Fa AR AL 24 → MadeIs IL AL b.1 b.2 → b.1 + 11 * i ≤ 8 * y.length + 11 * (e - f) → sB L t ls f i b = sB L t ls f (e - f) (8 * y.length, w0) → WX (lk tX12_putStream) (mM (d + 1)) Ψ 4 [(0, .ref m), (1, .int (nI f)), (2, .int (nI e)), (3, .int (qI (f + i)))] [] (n, s, hL_) := by
    clear M_h FR_h FI_I FA_AR
    intro i
    induction i with
    | zero =>
      intro b hL_ IL AL hi FR_hL_ M_hL_ FI_IL FA_AL hM hb hT
      have K_IL_15 : IL 15 = nI t := (FI_IL 15 (by decide)).trans K_I_15
      rw [Nat.add_zero]
      have hbT : b = sB L t ls f (e - f) (8 * y.length, w0) := hT
      rw [hbT] at hM hb
      refine WX.s1 rfl rfl ?_
      refine WX.s1 rfl rfl ?_
      refine WX.icmp rfl (fun c_6 => ?_) (fun c_6 => absurd ((qI_ltN2 (by omega) (by omega)).mpr (Nat.le_refl _)) c_6)
      refine WX.s1 rfl rfl ?_
      refine WX.s1 rfl rfl ?_
      refine WX.s1 rfl rfl ?_
      refine WX.callC (vs := [.ref m, .int (nI 1), .int (nI 1)]) rfl rfl rfl (Nat.le_of_ble_eq_true rfl) (M_hL_.rcv hm) ?_
      refine m_putV hm M_hL_ hM (by decide) (by decide) (by omega) (fun h2 I2 A2 fr2 M_h2 fi2 fa2 hM2 => ?_)
      rw [show 1 % 2 ^ 1 * 2 ^ (sB L t ls f (e - f) (8 * y.length, w0)).1 = 2 ^ (sB L t ls f (e - f) (8 * y.length, w0)).1 from Nat.one_mul _] at hM2
      show WX _ _ _ 76 [(0, .ref m), (1, .int (nI f)), (2, .int (nI e)), (3, .int (qI f))] [] (n, s, h2)
      refine WX.s1 rfl rfl ?_
      refine WX.callC (vs := [.ref m]) rfl rfl rfl (Nat.le_of_ble_eq_true rfl) (M_h2.rcv hm) ?_
      refine m_fillV hm M_h2 hM2 (by omega) (fun h3 I3 A3 fr3 M_h3 fi3 fa3 hM3 => ?_)
      obtain ⟨a1, a2⟩ := sY_al (L := L) (t := t) (f := f) (k := e - f) (ls := ls) hw0
      rw [a1] at hM3
      rw [hy0] at a2
      have hyl2 : (y ++ sY L t ls f (e - f)).length = y.length + ((sB L t ls f (e - f) (0, 0)).1 / 8 + 1) := by rw [List.length_append]; unfold sY; rw [leBy_len]
      refine WX.ret0 rfl (kk h3 I3 A3 ((FR_hL_.ztr fr2).ztr fr3) M_h3 ((FI_IL.ztr fi2).ztr fi3) ((FA_AL.ztr fa2).ztr fa3) ⟨_, by rw [hyl2]; exact hM3, by rw [hyl2]; exact a2⟩)
    | succ i ih =>
      intro b hL_ IL AL hi FR_hL_ M_hL_ FI_IL FA_AL hM hb hT
      have K_IL_15 : IL 15 = nI t := (FI_IL 15 (by decide)).trans K_I_15
      rw [show f + (i + 1) = (f + i) + 1 from rfl, qIs]
      have y1 := hL.2 (f + i) (by omega)
      have ym := getD_mem (show f + i < ls.length by omega)
      have y2 := hls.1 _ ym
      have hz := hlz _ ym
      have l1 := hLn _ y2
      have l2 := hok.2.2.1 _ y2
      obtain ⟨w1, w2, w3⟩ := wg_le hok y2 hz
      have c2 := cd_le2 hok y2 hz
      generalize hx : ls.getD (f + i) 0 = x at *
      refine WX.s1 rfl rfl ?_
      refine WX.s1 rfl rfl ?_
      refine WX.icmp rfl (fun c_6 => absurd c_6 (fun zz_ => absurd ((nI_ltI (a := f + i) (b := f) (by omega) (by omega)).mp zz_) (Nat.not_lt.mpr (by omega)))) (fun c_6 => ?_)
      clear c_6
      refine WX.s1 rfl rfl ?_
      refine WX.mget rfl hm M_hL_ rfl ?_
      refine WX.s1 rfl rfl ?_
      refine WX.mald (c := 20) rfl hm M_hL_ (by decide) (by decide) (by decide) (by decide) (vp_in_nI (N := 8001) (by omega) (by decide)) ?_
      rw [nI_clamp (by omega), FA_AL 20 (by decide), y1]
      refine WX.s1 (L' := [(0, .ref m), (1, .int (nI f)), (2, .int (nI e)), (3, .int (nI (f + i))), (4, .int (nI x))]) rfl rfl ?_
      refine WX.s1 rfl rfl ?_
      refine WX.s1 (L' := [(0, .ref m), (1, .int (nI f)), (2, .int (nI e)), (3, .int (nI (f + i))), (4, .int (nI x)), (5, .int 0)]) rfl rfl ?_
      have lp2 : ∀ (q c : Nat), c + q = stK L t x → WX (lk tX12_putStream) (mM (d + 1)) Ψ 20 [(0, .ref m), (1, .int (nI f)), (2, .int (nI e)), (3, .int (nI (f + i))), (4, .int (nI x)), (5, .int (nI c))] [] (n, s, hL_) := by
        intro q
        induction q with
        | zero =>
          intro c hc
          obtain rfl : c = stK L t x := by omega
          refine WX.s1 rfl rfl ?_
          refine WX.mget rfl hm M_hL_ rfl ?_
          refine WX.s1 rfl rfl ?_
          refine WX.mald (c := 38) rfl hm M_hL_ (by decide) (by decide) (by decide) (by decide) (vp_in_nI (N := 2048) (by omega) (by decide)) ?_
          rw [nI_clamp (by omega), FA_AL 38 (by decide), hC.1 x y2 hz]
          refine WX.s1 rfl rfl ?_
          refine WX.icmp rfl (fun c_29 => ?_) (fun c_29 => absurd (rfl) c_29)
          refine WX.s1 rfl rfl ?_
          refine WX.s1 rfl rfl ?_
          refine WX.s1 rfl rfl ?_
          refine WX.mgetK (x := (nI t)) rfl hm M_hL_ rfl K_IL_15 ?_
          refine WX.s1 rfl rfl ?_
          refine WX.mget rfl hm M_hL_ rfl ?_
          refine WX.s1 rfl rfl ?_
          refine WX.mald (c := 8) rfl hm M_hL_ (by decide) (by decide) (by decide) (by decide) (vp_in_nI (N := 256) (by omega) (by decide)) ?_
          rw [nI_clamp (by omega), FA_AL 8 (by decide), l1]
          refine WX.s1 (S' := [.int ((nI t) - (nI (L x))), .int (nI (stK L t x)), .ref m]) rfl rfl ?_
          rw [nI_subN (by omega)]
          refine WX.s1 (S' := [.int ((nI (stK L t x)) >>> ((nI (t - L x)) &&& 31)), .ref m]) rfl rfl ?_
          rw [show nI (stK L t x) >>> (nI (t - L x) &&& 31) = nI (stK L t x / 2 ^ (t - L x)) from pk_shrN (by omega) _ _ (sm31 _ (by omega)), ← w3]
          refine WX.s1 rfl rfl ?_
          refine WX.mget rfl hm M_hL_ rfl ?_
          refine WX.s1 rfl rfl ?_
          refine WX.mald (c := 8) rfl hm M_hL_ (by decide) (by decide) (by decide) (by decide) (vp_in_nI (N := 256) (by omega) (by decide)) ?_
          rw [nI_clamp (by omega), FA_AL 8 (by decide), l1]
          refine WX.callC (vs := [.ref m, .int (nI (cdK L t x)), .int (nI (L x))]) rfl rfl rfl (Nat.le_of_ble_eq_true rfl) (M_hL_.rcv hm) ?_
          refine m_putV hm M_hL_ hM (by omega) (by omega) (by omega) (fun h2 I2 A2 fr2 M_h2 fi2 fa2 hM2 => ?_)
          show WX _ _ _ 64 [(0, .ref m), (1, .int (nI f)), (2, .int (nI e)), (3, .int (nI (f + i))), (4, .int (nI x)), (5, .int (nI (stK L t x)))] [] (n, s, h2)
          refine WX.s1 (L' := [(0, .ref m), (1, .int (nI f)), (2, .int (nI e)), (3, .int ((nI (f + i)) + (-1))), (4, .int (nI x)), (5, .int (nI (stK L t x)))]) rfl rfl ?_
          rw [show (nI (f + i)) + (-1) = qI (f + i) from qI_dec _]
          refine WX.keep (y := 189) [0, 1, 2, 3] (show ([0, 1, 2, 3, 4, 5] : List Nat).Nodup by decide) rfl ?_
          refine WX.s1 rfl rfl ?_
          refine ih (addB b (cdK L t x) (L x)) h2 I2 A2 (by omega) (FR_hL_.ztr fr2) M_h2 (FI_IL.ztr fi2) (FA_AL.ztr fa2) hM2 (by show b.1 + L x + _ ≤ _; omega) ?_
          rw [← hT, ← hx]
          rfl
        | succ q ih2 =>
          intro c hc
          have hne := hC.2 x c y2 hz (by omega)
          refine WX.s1 rfl rfl ?_
          refine WX.mget rfl hm M_hL_ rfl ?_
          refine WX.s1 rfl rfl ?_
          refine WX.mald (c := 38) rfl hm M_hL_ (by decide) (by decide) (by decide) (by decide) (vp_in_nI (N := 2048) (by omega) (by decide)) ?_
          rw [nI_clamp (by omega), FA_AL 38 (by decide)]
          refine WX.s1 rfl rfl ?_
          refine WX.icmp rfl (fun c_29 => absurd c_29 (hne)) (fun c_29 => ?_)
          refine WX.s1 (L' := [(0, .ref m), (1, .int (nI f)), (2, .int (nI e)), (3, .int (nI (f + i))), (4, .int (nI x)), (5, .int ((nI c) + 1))]) rfl rfl ?_
          rw [show ((nI c) + 1) = nI (c + 1) from nI_add c 1]
          refine WX.s1 rfl rfl ?_
          exact ih2 (c + 1) (by omega)
      exact lp2 (stK L t x) 0 (by omega)
  rw [show nI e - 1 = qI (f + (e - f)) by rw [show f + (e - f) = e by omega]; exact nI_m1q e]
  exact lp (e - f) (8 * y.length, w0) h I AR (by omega) FR_h M_h FI_I FA_AR hM0 (Nat.le_refl _) rfl
set_option maxRecDepth 20000 in
theorem m_allAlk {d n s : Nat} {h : Nat → aE} {m : Nat} {I : Nat → Int32} {AR : Nat → Nat → Int32} {LN : Nat → Int64} {ls : List Nat} (hm : m + 43 < n) (M_h : MAt h m I AR LN) (hL : LitM I AR ls) (hls : LsOk ls) (K_I_33 : I 33 = (nI ls.length)) {Ψ : Option Value → aH → Prop} (kk1 : Alk ls → Ψ (some (.int 1)) (n, s, h)) (kk2 : ¬ Alk ls → Ψ (some (.int 0)) (n, s, h)) : WO (mM (d + 1)) 190 [.ref m] (n, s, h) Ψ := by
  refine WO.of (Nat.le_of_ble_eq_true rfl) ?_
  have FR_h : Fr h h (inM m) := Fr.rf
  have FI_I : Fi I I (fun f => f = 40) := Fi.rf
  have hlen := hls.2
  show WX (lk tX12_allAlike) (mM d) Ψ 0 [(0, .ref m)] [] (n, s, h)
  refine WX.s1 rfl rfl ?_
  refine WX.s1 (L' := [(0, .ref m), (1, .int 1)]) rfl rfl ?_
  have lp : ∀ (t i : Nat), 1 ≤ i → (i + t = ls.length ∨ (t = 0 ∧ i = 1 ∧ ls.length = 0)) → (∀ q, q < i → q < ls.length → ls.getD q 0 = ls.getD 0 0) → WX (lk tX12_allAlike) (mM d) Ψ 2 [(0, .ref m), (1, .int (nI i))] [] (n, s, h) := by
    intro t
    induction t with
    | zero =>
      intro i hi1 hi ha
      by_cases hi9 : i < 2 ^ 30
      · skip
        refine WX.s1 rfl rfl ?_
        refine WX.s1 rfl rfl ?_
        refine WX.mgetK (x := (nI ls.length)) rfl hm M_h rfl K_I_33 ?_
        refine WX.icmp rfl (fun c_7 => ?_) (fun c_7 => absurd ((nI_leI (a := ls.length) (b := i) (by omega) (by omega)).mpr (by omega)) c_7)
        clear c_7
        refine WX.s1 rfl rfl ?_
        refine WX.mgetK (x := (nI ls.length)) rfl hm M_h rfl K_I_33 ?_
        refine WX.if_ rfl (fun c_37 => ?_) (fun c_37 => ?_)
        · skip
          have n_37 : ls.length ≤ 0 := (nI_leI (a := ls.length) (b := 0) (by omega) (by omega)).mp c_37
          refine WX.s1 rfl rfl ?_
          exact WX.ret3 rfl (by decide) (kk2 (fun z => z.1 (List.length_eq_zero_iff.mp (by omega))))
        · skip
          have n_37 : 0 < ls.length := Nat.lt_of_not_le (fun zz_ => c_37 ((nI_leI (a := ls.length) (b := 0) (by omega) (by omega)).mpr zz_))
          refine WX.s1 rfl rfl ?_
          refine WX.s1 rfl rfl ?_
          exact WX.ret3 rfl (by decide) (kk1 ⟨fun z => by rw [z] at n_37; exact absurd n_37 (by decide), fun s hs => by obtain ⟨q, q1, q2⟩ := mem_getD hs; rw [← q2]; exact ha q (by omega) q1⟩)
      · exfalso; omega
    | succ t ih =>
      intro i hi1 hi ha
      have y1 := hL.2 i (by omega)
      have y0 := hL.2 0 (by omega)
      have b1 := hls.1 _ (getD_mem (show i < ls.length by omega))
      have b0 := hls.1 _ (getD_mem (show 0 < ls.length by omega))
      refine WX.s1 rfl rfl ?_
      refine WX.s1 rfl rfl ?_
      refine WX.mgetK (x := (nI ls.length)) rfl hm M_h rfl K_I_33 ?_
      refine WX.icmp rfl (fun c_7 => absurd c_7 (fun zz_ => absurd ((nI_leI (a := ls.length) (b := i) (by omega) (by omega)).mp zz_) (Nat.not_le.mpr (by omega)))) (fun c_7 => ?_)
      clear c_7
      refine WX.s1 rfl rfl ?_
      refine WX.mget rfl hm M_h rfl ?_
      refine WX.s1 rfl rfl ?_
      refine WX.mald (c := 20) rfl hm M_h (by decide) (by decide) (by decide) (by decide) (vp_in_nI (N := 8001) (by omega) (by decide)) ?_
      rw [nI_clamp (by omega), y1]
      refine WX.s1 rfl rfl ?_
      refine WX.mget rfl hm M_h rfl ?_
      refine WX.s1 rfl rfl ?_
      refine WX.mald (c := 20) rfl hm M_h (by decide) (by decide) (by decide) (by decide) (by unfold vp_in; decide) ?_
      rw [show Int32.toNatClampNeg 0 = 0 from rfl, y0]
      refine WX.icmp rfl (fun c_22 => ?_) (fun c_22 => ?_)
      · skip
        have n_22 : (ls.getD i 0) = (ls.getD 0 0) := (nI_eq (a := ls.getD i 0) (b := ls.getD 0 0) (by omega) (by omega)).mp c_22
        refine WX.s1 (L' := [(0, .ref m), (1, .int ((nI i) + 1))]) rfl rfl ?_
        rw [show ((nI i) + 1) = nI (i + 1) from nI_add i 1]
        refine WX.s1 rfl rfl ?_
        refine ih (i + 1) (by omega) (by omega) (fun q hq hl => ?_)
        by_cases z : q = i
        · rw [z]; exact n_22
        · exact ha q (by omega) hl
      · skip
        have n_22 : ¬ (ls.getD i 0) = (ls.getD 0 0) := fun zz_ => c_22 ((nI_eq (a := ls.getD i 0) (b := ls.getD 0 0) (by omega) (by omega)).mpr zz_)
        refine WX.s1 rfl rfl ?_
        exact WX.ret3 rfl (by decide) (kk2 (fun z => n_22 (z.2 _ (getD_mem (show i < ls.length by omega)))))
  exact lp (ls.length - 1) 1 (by decide) (by omega) (fun q hq _ => by rw [show q = 0 by omega])
set_option maxRecDepth 20000 in
theorem m_codedN {d n s : Nat} {h : Nat → aE} {m : Nat} {I : Nat → Int32} {AR : Nat → Nat → Int32} {LN : Nat → Int64} {ls : List Nat} (hm : m + 43 < n) (M_h : MAt h m I AR LN) (hL : LitM I AR ls) (hls : LsOk ls) (K_I_33 : I 33 = (nI ls.length)) (K_I_15 : I 15 = 0) {Ψ : Option Value → aH → Prop} (kk : Ψ (some (.int 0)) (n, s, h)) : WO (mM (d + 1)) 191 [.ref m] (n, s, h) Ψ := by
  refine WO.of (Nat.le_of_ble_eq_true rfl) ?_
  have FR_h : Fr h h (inM m) := Fr.rf
  have FI_I : Fi I I (fun f => f = 40) := Fi.rf
  have hlen := hls.2
  show WX (lk tX12_allCoded) (mM d) Ψ 0 [(0, .ref m)] [] (n, s, h)
  refine WX.s1 rfl rfl ?_
  refine WX.s1 (L' := [(0, .ref m), (1, .int 0)]) rfl rfl ?_
  have lp : ∀ (q i : Nat), i + q = ls.length → WX (lk tX12_allCoded) (mM d) Ψ 2 [(0, .ref m), (1, .int (nI i))] [] (n, s, h) := by
    intro q
    induction q with
    | zero =>
      intro i hi
      obtain rfl : i = ls.length := by omega
      refine WX.s1 rfl rfl ?_
      refine WX.s1 rfl rfl ?_
      refine WX.mgetK (x := (nI ls.length)) rfl hm M_h rfl K_I_33 ?_
      refine WX.icmp rfl (fun c_7 => ?_) (fun c_7 => absurd ((nI_leI (a := ls.length) (b := ls.length) (by omega) (by omega)).mpr (by omega)) c_7)
      clear c_7
      refine WX.s1 rfl rfl ?_
      refine WX.mgetK (x := 0) rfl hm M_h rfl K_I_15 ?_
      refine WX.if_ rfl (fun c_36 => ?_) (fun c_36 => absurd (by decide) c_36)
      clear c_36
      refine WX.s1 rfl rfl ?_
      exact WX.ret3 rfl (by decide) kk
    | succ q ih =>
      intro i hi
      have y1 := hL.2 i (by omega)
      have ym := getD_mem (show i < ls.length by omega)
      have y2 := hls.1 _ ym
      refine WX.s1 rfl rfl ?_
      refine WX.s1 rfl rfl ?_
      refine WX.mgetK (x := (nI ls.length)) rfl hm M_h rfl K_I_33 ?_
      refine WX.icmp rfl (fun c_7 => absurd c_7 (fun zz_ => absurd ((nI_leI (a := ls.length) (b := i) (by omega) (by omega)).mp zz_) (Nat.not_le.mpr (by omega)))) (fun c_7 => ?_)
      clear c_7
      refine WX.s1 rfl rfl ?_
      refine WX.mget rfl hm M_h rfl ?_
      refine WX.s1 rfl rfl ?_
      refine WX.mget rfl hm M_h rfl ?_
      refine WX.s1 rfl rfl ?_
      refine WX.mald (c := 20) rfl hm M_h (by decide) (by decide) (by decide) (by decide) (vp_in_nI (N := 8001) (by omega) (by decide)) ?_
      rw [nI_clamp (by omega), y1]
      refine WX.mald (c := 8) rfl hm M_h (by decide) (by decide) (by decide) (by decide) (vp_in_nI (N := 256) (by omega) (by decide)) ?_
      rw [nI_clamp (by omega)]
      refine WX.if_ rfl (fun c_21 => ?_) (fun c_21 => ?_)
      · skip
        refine WX.s1 (L' := [(0, .ref m), (1, .int ((nI i) + 1))]) rfl rfl ?_
        rw [show ((nI i) + 1) = nI (i + 1) from nI_add i 1]
        refine WX.s1 rfl rfl ?_
        exact ih (i + 1) (by omega)
      · skip
        refine WX.s1 rfl rfl ?_
        exact WX.ret3 rfl (by decide) kk
  exact lp ls.length 0 (by omega)
set_option maxRecDepth 20000 in
theorem m_codedS {d n s : Nat} {h : Nat → aE} {m : Nat} {I : Nat → Int32} {AR : Nat → Nat → Int32} {LN : Nat → Int64} {ls : List Nat} {L : Nat → Nat} {t : Nat} (hm : m + 43 < n) (M_h : MAt h m I AR LN) (hL : LitM I AR ls) (hls : LsOk ls) (hLn : ∀ s, s < 256 → AR 8 s = nI (L s) ∧ L s ≤ 11) (ht : 1 ≤ t) (ht2 : t ≤ 11) (K_I_33 : I 33 = (nI ls.length)) (K_I_15 : I 15 = (nI t)) {Ψ : Option Value → aH → Prop} (kk1 : (∀ s, s ∈ ls → L s ≠ 0) → Ψ (some (.int 1)) (n, s, h)) (kk2 : ¬ (∀ s, s ∈ ls → L s ≠ 0) → Ψ (some (.int 0)) (n, s, h)) : WO (mM (d + 1)) 191 [.ref m] (n, s, h) Ψ := by
  refine WO.of (Nat.le_of_ble_eq_true rfl) ?_
  have FR_h : Fr h h (inM m) := Fr.rf
  have FI_I : Fi I I (fun f => f = 40) := Fi.rf
  have hlen := hls.2
  show WX (lk tX12_allCoded) (mM d) Ψ 0 [(0, .ref m)] [] (n, s, h)
  refine WX.s1 rfl rfl ?_
  refine WX.s1 (L' := [(0, .ref m), (1, .int 0)]) rfl rfl ?_
  have lp : ∀ (q i : Nat), i + q = ls.length → (∀ j, j < i → L (ls.getD j 0) ≠ 0) → WX (lk tX12_allCoded) (mM d) Ψ 2 [(0, .ref m), (1, .int (nI i))] [] (n, s, h) := by
    intro q
    induction q with
    | zero =>
      intro i hi ha
      obtain rfl : i = ls.length := by omega
      refine WX.s1 rfl rfl ?_
      refine WX.s1 rfl rfl ?_
      refine WX.mgetK (x := (nI ls.length)) rfl hm M_h rfl K_I_33 ?_
      refine WX.icmp rfl (fun c_7 => ?_) (fun c_7 => absurd ((nI_leI (a := ls.length) (b := ls.length) (by omega) (by omega)).mpr (by omega)) c_7)
      clear c_7
      refine WX.s1 rfl rfl ?_
      refine WX.mgetK (x := (nI t)) rfl hm M_h rfl K_I_15 ?_
      refine WX.if_ rfl (fun c_36 => absurd c_36 (fun zz_ => absurd ((nI_leI (a := t) (b := 0) (by omega) (by omega)).mp zz_) (Nat.not_le.mpr (by omega)))) (fun c_36 => ?_)
      clear c_36
      refine WX.s1 rfl rfl ?_
      refine WX.s1 rfl rfl ?_
      exact WX.ret3 rfl (by decide) (kk1 (fun s hs => by obtain ⟨q, q1, q2⟩ := mem_getD hs; rw [← q2]; exact ha q q1))
    | succ q ih =>
      intro i hi ha
      have y1 := hL.2 i (by omega)
      have ym := getD_mem (show i < ls.length by omega)
      have y2 := hls.1 _ ym
      have l2 := (hLn _ y2).2
      refine WX.s1 rfl rfl ?_
      refine WX.s1 rfl rfl ?_
      refine WX.mgetK (x := (nI ls.length)) rfl hm M_h rfl K_I_33 ?_
      refine WX.icmp rfl (fun c_7 => absurd c_7 (fun zz_ => absurd ((nI_leI (a := ls.length) (b := i) (by omega) (by omega)).mp zz_) (Nat.not_le.mpr (by omega)))) (fun c_7 => ?_)
      clear c_7
      refine WX.s1 rfl rfl ?_
      refine WX.mget rfl hm M_h rfl ?_
      refine WX.s1 rfl rfl ?_
      refine WX.mget rfl hm M_h rfl ?_
      refine WX.s1 rfl rfl ?_
      refine WX.mald (c := 20) rfl hm M_h (by decide) (by decide) (by decide) (by decide) (vp_in_nI (N := 8001) (by omega) (by decide)) ?_
      rw [nI_clamp (by omega), y1]
      refine WX.mald (c := 8) rfl hm M_h (by decide) (by decide) (by decide) (by decide) (vp_in_nI (N := 256) (by omega) (by decide)) ?_
      rw [nI_clamp (by omega), (hLn _ y2).1]
      refine WX.if_ rfl (fun c_21 => ?_) (fun c_21 => ?_)
      · skip
        have n_21 : ¬ (L (ls.getD i 0)) = 0 := fun zz_ => c_21 ((nI_eq (a := L (ls.getD i 0)) (b := 0) (by omega) (by omega)).mpr zz_)
        refine WX.s1 (L' := [(0, .ref m), (1, .int ((nI i) + 1))]) rfl rfl ?_
        rw [show ((nI i) + 1) = nI (i + 1) from nI_add i 1]
        refine WX.s1 rfl rfl ?_
        refine ih (i + 1) (by omega) (fun j hj => ?_)
        by_cases z : j = i
        · rw [z]; exact n_21
        · exact ha j (by omega)
      · skip
        have n_21 : (L (ls.getD i 0)) = 0 := (nI_eq (a := L (ls.getD i 0)) (b := 0) (by omega) (by omega)).mp (Classical.not_not.mp c_21)
        refine WX.s1 rfl rfl ?_
        exact WX.ret3 rfl (by decide) (kk2 (fun z => z _ ym n_21))
  exact lp ls.length 0 (by omega) (fun j hj => absurd hj (Nat.not_lt_zero j))
set_option maxRecDepth 20000 in
theorem m_four {d n s : Nat} {h : Nat → aE} {m : Nat} {I : Nat → Int32} {AR : Nat → Nat → Int32} {LN : Nat → Int64} {ls : List Nat} {L : Nat → Nat} {t : Nat} (hm : m + 43 < n) (M_h : MAt h m I AR LN) (hL : LitM I AR ls) (hls : LsOk ls) (hok : LenOk L t) (hLn : ∀ s, s < 256 → AR 8 s = nI (L s)) (hlz : ∀ s, s ∈ ls → L s ≠ 0) (hC : CeM AR L t) (h1024 : 1024 ≤ ls.length) (hY : MadeY I AR []) (K_I_33 : I 33 = (nI ls.length)) (K_I_15 : I 15 = (nI t)) {Ψ : Option Value → aH → Prop} (kk : ∀ h' I' A', Fr h h' (inM m) → MAt h' m I' A' LN → Fi I I' (fun f => f = 38) → Fa AR A' 24 → MadeY I' A' (frY L t ls) → Ψ none (n, s, h')) : WO (mM (d + 3)) 194 [.ref m] (n, s, h) Ψ := by
  refine WO.of (Nat.le_of_ble_eq_true rfl) ?_
  have FR_h : Fr h h (inM m) := Fr.rf
  have FI_I : Fi I I (fun f => f = 38) := Fi.rf
  have FA_AR : Fa AR AR 24 := Fa.rf
  have hlen := hls.2
  have ht2 := hok.2.1
  have hLn2 : LnM AR 8 L := fun s hs => ⟨hLn s hs, Nat.le_trans (hok.2.2.1 s hs) (by omega)⟩
  have hstb : ∀ f e, f ≤ e → e ≤ ls.length → stb L ls f e < 2 ^ 16 := fun f e h1 h2 => by have q := sum18 (fun s hs => (hLn2 s hs).2) hls.1 (f := f) (e - f) (by omega); unfold stb; omega
  have hsyl : ∀ f k, f + k ≤ ls.length → (sY L t ls f k).length ≤ 11 * k / 8 + 1 := fun f k hk => by have q : ∀ j, j ≤ k → sumN (fun i => L (ls.getD (f + i) 0)) j ≤ 11 * j := (fun j => by induction j with | zero => intro _; exact Nat.le_refl _ | succ j ihj => intro hj; have a := ihj (by omega); have b := hok.2.2.1 _ (hls.1 _ (getD_mem (show f + j < ls.length by omega))); show sumN _ j + L (ls.getD (f + j) 0) ≤ _; omega); have q1 := q k (Nat.le_refl _); unfold sY; rw [leBy_len, sB_1]; show (0 + _) / 8 + 1 ≤ _; omega
  show WX (lk tX12_putFour) (mM (d + 2)) Ψ 0 [(0, .ref m)] [] (n, s, h)
  refine WX.s1 rfl rfl ?_
  refine WX.mgetK (x := (nI ls.length)) rfl hm M_h rfl K_I_33 ?_
  refine WX.s1 rfl rfl ?_
  refine WX.s1 (S' := [.int ((nI ls.length) + 3)]) rfl rfl ?_
  rw [show ((nI ls.length) + 3) = nI (ls.length + 3) from nI_add ls.length 3]
  refine WX.s1 rfl rfl ?_
  refine WX.div rfl (by decide) ?_
  rw [show nI (ls.length + 3) / 4 = nI ((ls.length + 3) / 4) from pk_div (by omega) (by decide) (by decide)]
  refine WX.s1 (L' := [(0, .ref m), (1, .int (nI ((ls.length + 3) / 4)))]) rfl rfl ?_
  refine WX.s1 rfl rfl ?_
  refine WX.s1 (L' := [(0, .ref m), (1, .int (nI ((ls.length + 3) / 4))), (2, .int 0)]) rfl rfl ?_
  refine WX.s1 rfl rfl ?_
  refine WX.s1 rfl rfl ?_
  refine WX.icmp rfl (fun c_13 => absurd c_13 (by decide)) (fun c_13 => ?_)
  clear c_13
  refine WX.s1 rfl rfl ?_
  refine WX.s1 rfl rfl ?_
  refine WX.s1 rfl rfl ?_
  refine WX.mget rfl hm M_h rfl ?_
  refine WX.s1 rfl rfl ?_
  refine WX.s1 rfl rfl ?_
  refine WX.s1 (S' := [.int (0 * (nI ((ls.length + 3) / 4))), .ref (m + 8), .ref m, .ref m]) rfl rfl ?_
  rw [show (0 * (nI ((ls.length + 3) / 4))) = nI (0 * ((ls.length + 3) / 4)) from (Int32.ofNat_mul 0 ((ls.length + 3) / 4)).symm]
  refine WX.s1 rfl rfl ?_
  refine WX.s1 rfl rfl ?_
  refine WX.s1 (S' := [.int (0 * (nI ((ls.length + 3) / 4))), .int (nI (0 * ((ls.length + 3) / 4))), .ref (m + 8), .ref m, .ref m]) rfl rfl ?_
  rw [show (0 * (nI ((ls.length + 3) / 4))) = nI (0 * ((ls.length + 3) / 4)) from (Int32.ofNat_mul 0 ((ls.length + 3) / 4)).symm]
  refine WX.s1 rfl rfl ?_
  refine WX.s1 (S' := [.int ((nI (0 * ((ls.length + 3) / 4))) + (nI ((ls.length + 3) / 4))), .int (nI (0 * ((ls.length + 3) / 4))), .ref (m + 8), .ref m, .ref m]) rfl rfl ?_
  rw [show ((nI (0 * ((ls.length + 3) / 4))) + (nI ((ls.length + 3) / 4))) = nI (0 * ((ls.length + 3) / 4) + ((ls.length + 3) / 4)) from nI_add (0 * ((ls.length + 3) / 4)) ((ls.length + 3) / 4)]
  refine WX.callC (vs := [.ref m, .ref (m + 8), .int (nI (0 * ((ls.length + 3) / 4))), .int (nI (0 * ((ls.length + 3) / 4) + ((ls.length + 3) / 4)))]) rfl rfl rfl (Nat.le_of_ble_eq_true rfl) (M_h.rcv hm) ?_
  refine m_stb8 (L := L) hm M_h ⟨(FI_I 33 (by decide)).trans hL.1, fun i hi => by rw [FA_AR 20 (by decide)]; exact hL.2 i hi⟩ hls (fun s hs => by rw [FA_AR 8 (by decide)]; exact hLn2 s hs) (by omega) (by omega) ?_
  show WX _ _ _ 33 [(0, .ref m), (1, .int (nI ((ls.length + 3) / 4))), (2, .int 0)] [.int (nI (stb L ls (0 * ((ls.length + 3) / 4)) (0 * ((ls.length + 3) / 4) + ((ls.length + 3) / 4)))), .ref m] (n, s, h)
  refine WX.s1 rfl rfl ?_
  obtain ⟨wP0, hmP0, hlP0⟩ := hY
  have hxP0 := hstb (0 * ((ls.length + 3) / 4)) (0 * ((ls.length + 3) / 4) + ((ls.length + 3) / 4)) (by omega) (by omega)
  refine WX.callC (vs := [.ref m, .int (nI (stb L ls (0 * ((ls.length + 3) / 4)) (0 * ((ls.length + 3) / 4) + ((ls.length + 3) / 4)))), .int (nI 16)]) rfl rfl rfl (Nat.le_of_ble_eq_true rfl) (M_h.rcv hm) ?_
  refine m_putV hm M_h hmP0 (by omega) (by decide) (by rw [show ([] : List Nat).length = 0 from rfl]; decide) (fun hP0 IP0 AP0 frP0 M_hP0 fiP0 faP0 RP0 => ?_)
  have YP0 : MadeY IP0 AP0 (([] : List Nat) ++ leBy (stb L ls (0 * ((ls.length + 3) / 4)) (0 * ((ls.length + 3) / 4) + ((ls.length + 3) / 4))) 2) := MadeY.num (I := I) (A := AR) (k := 2) hlP0 hmP0.2.2.1 hxP0 rfl RP0
  have FR_hP0 := FR_h.ztr frP0
  have FI_IP0 : Fi I IP0 (fun f => f = 38) := FI_I.ztr fiP0
  have FA_AP0 : Fa AR AP0 24 := FA_AR.ztr faP0
  have K_IP0_33 : IP0 33 = (nI ls.length) := (fiP0 33 (by decide)).trans K_I_33
  have K_IP0_15 : IP0 15 = (nI t) := (fiP0 15 (by decide)).trans K_I_15
  show WX _ _ _ 38 [(0, .ref m), (1, .int (nI ((ls.length + 3) / 4))), (2, .int 0)] [] (n, s, hP0)
  refine WX.s1 (L' := [(0, .ref m), (1, .int (nI ((ls.length + 3) / 4))), (2, .int (0 + 1))]) rfl rfl ?_
  rw [show ((0 : Int32) + 1) = 1 from rfl]
  refine WX.s1 rfl rfl ?_
  refine WX.s1 rfl rfl ?_
  refine WX.s1 rfl rfl ?_
  refine WX.icmp rfl (fun c_13 => absurd c_13 (by decide)) (fun c_13 => ?_)
  clear c_13
  refine WX.s1 rfl rfl ?_
  refine WX.s1 rfl rfl ?_
  refine WX.s1 rfl rfl ?_
  refine WX.mget rfl hm M_hP0 rfl ?_
  refine WX.s1 rfl rfl ?_
  refine WX.s1 rfl rfl ?_
  refine WX.s1 (S' := [.int (1 * (nI ((ls.length + 3) / 4))), .ref (m + 8), .ref m, .ref m]) rfl rfl ?_
  rw [show (1 * (nI ((ls.length + 3) / 4))) = nI (1 * ((ls.length + 3) / 4)) from (Int32.ofNat_mul 1 ((ls.length + 3) / 4)).symm]
  refine WX.s1 rfl rfl ?_
  refine WX.s1 rfl rfl ?_
  refine WX.s1 (S' := [.int (1 * (nI ((ls.length + 3) / 4))), .int (nI (1 * ((ls.length + 3) / 4))), .ref (m + 8), .ref m, .ref m]) rfl rfl ?_
  rw [show (1 * (nI ((ls.length + 3) / 4))) = nI (1 * ((ls.length + 3) / 4)) from (Int32.ofNat_mul 1 ((ls.length + 3) / 4)).symm]
  refine WX.s1 rfl rfl ?_
  refine WX.s1 (S' := [.int ((nI (1 * ((ls.length + 3) / 4))) + (nI ((ls.length + 3) / 4))), .int (nI (1 * ((ls.length + 3) / 4))), .ref (m + 8), .ref m, .ref m]) rfl rfl ?_
  rw [show ((nI (1 * ((ls.length + 3) / 4))) + (nI ((ls.length + 3) / 4))) = nI (1 * ((ls.length + 3) / 4) + ((ls.length + 3) / 4)) from nI_add (1 * ((ls.length + 3) / 4)) ((ls.length + 3) / 4)]
  refine WX.callC (vs := [.ref m, .ref (m + 8), .int (nI (1 * ((ls.length + 3) / 4))), .int (nI (1 * ((ls.length + 3) / 4) + ((ls.length + 3) / 4)))]) rfl rfl rfl (Nat.le_of_ble_eq_true rfl) (M_hP0.rcv hm) ?_
  refine m_stb8 (L := L) hm M_hP0 ⟨(FI_IP0 33 (by decide)).trans hL.1, fun i hi => by rw [FA_AP0 20 (by decide)]; exact hL.2 i hi⟩ hls (fun s hs => by rw [FA_AP0 8 (by decide)]; exact hLn2 s hs) (by omega) (by omega) ?_
  show WX _ _ _ 33 [(0, .ref m), (1, .int (nI ((ls.length + 3) / 4))), (2, .int 1)] [.int (nI (stb L ls (1 * ((ls.length + 3) / 4)) (1 * ((ls.length + 3) / 4) + ((ls.length + 3) / 4)))), .ref m] (n, s, hP0)
  refine WX.s1 rfl rfl ?_
  obtain ⟨wP1, hmP1, hlP1⟩ := YP0
  have hxP1 := hstb (1 * ((ls.length + 3) / 4)) (1 * ((ls.length + 3) / 4) + ((ls.length + 3) / 4)) (by omega) (by omega)
  refine WX.callC (vs := [.ref m, .int (nI (stb L ls (1 * ((ls.length + 3) / 4)) (1 * ((ls.length + 3) / 4) + ((ls.length + 3) / 4)))), .int (nI 16)]) rfl rfl rfl (Nat.le_of_ble_eq_true rfl) (M_hP0.rcv hm) ?_
  refine m_putV hm M_hP0 hmP1 (by omega) (by decide) (by rw [show (([] : List Nat) ++ leBy (stb L ls (0 * ((ls.length + 3) / 4)) (0 * ((ls.length + 3) / 4) + ((ls.length + 3) / 4))) 2).length = 2 by simp [leBy_len]]; decide) (fun hP1 IP1 AP1 frP1 M_hP1 fiP1 faP1 RP1 => ?_)
  have YP1 : MadeY IP1 AP1 ((([] : List Nat) ++ leBy (stb L ls (0 * ((ls.length + 3) / 4)) (0 * ((ls.length + 3) / 4) + ((ls.length + 3) / 4))) 2) ++ leBy (stb L ls (1 * ((ls.length + 3) / 4)) (1 * ((ls.length + 3) / 4) + ((ls.length + 3) / 4))) 2) := MadeY.num (I := I) (A := AR) (k := 2) hlP1 hmP1.2.2.1 hxP1 rfl RP1
  have FR_hP1 := FR_hP0.ztr frP1
  have FI_IP1 : Fi I IP1 (fun f => f = 38) := FI_IP0.ztr fiP1
  have FA_AP1 : Fa AR AP1 24 := FA_AP0.ztr faP1
  have K_IP1_33 : IP1 33 = (nI ls.length) := (fiP1 33 (by decide)).trans K_IP0_33
  have K_IP1_15 : IP1 15 = (nI t) := (fiP1 15 (by decide)).trans K_IP0_15
  show WX _ _ _ 38 [(0, .ref m), (1, .int (nI ((ls.length + 3) / 4))), (2, .int 1)] [] (n, s, hP1)
  refine WX.s1 (L' := [(0, .ref m), (1, .int (nI ((ls.length + 3) / 4))), (2, .int (1 + 1))]) rfl rfl ?_
  rw [show ((1 : Int32) + 1) = 2 from rfl]
  refine WX.s1 rfl rfl ?_
  refine WX.s1 rfl rfl ?_
  refine WX.s1 rfl rfl ?_
  refine WX.icmp rfl (fun c_13 => absurd c_13 (by decide)) (fun c_13 => ?_)
  clear c_13
  refine WX.s1 rfl rfl ?_
  refine WX.s1 rfl rfl ?_
  refine WX.s1 rfl rfl ?_
  refine WX.mget rfl hm M_hP1 rfl ?_
  refine WX.s1 rfl rfl ?_
  refine WX.s1 rfl rfl ?_
  refine WX.s1 (S' := [.int (2 * (nI ((ls.length + 3) / 4))), .ref (m + 8), .ref m, .ref m]) rfl rfl ?_
  rw [show (2 * (nI ((ls.length + 3) / 4))) = nI (2 * ((ls.length + 3) / 4)) from (Int32.ofNat_mul 2 ((ls.length + 3) / 4)).symm]
  refine WX.s1 rfl rfl ?_
  refine WX.s1 rfl rfl ?_
  refine WX.s1 (S' := [.int (2 * (nI ((ls.length + 3) / 4))), .int (nI (2 * ((ls.length + 3) / 4))), .ref (m + 8), .ref m, .ref m]) rfl rfl ?_
  rw [show (2 * (nI ((ls.length + 3) / 4))) = nI (2 * ((ls.length + 3) / 4)) from (Int32.ofNat_mul 2 ((ls.length + 3) / 4)).symm]
  refine WX.s1 rfl rfl ?_
  refine WX.s1 (S' := [.int ((nI (2 * ((ls.length + 3) / 4))) + (nI ((ls.length + 3) / 4))), .int (nI (2 * ((ls.length + 3) / 4))), .ref (m + 8), .ref m, .ref m]) rfl rfl ?_
  rw [show ((nI (2 * ((ls.length + 3) / 4))) + (nI ((ls.length + 3) / 4))) = nI (2 * ((ls.length + 3) / 4) + ((ls.length + 3) / 4)) from nI_add (2 * ((ls.length + 3) / 4)) ((ls.length + 3) / 4)]
  refine WX.callC (vs := [.ref m, .ref (m + 8), .int (nI (2 * ((ls.length + 3) / 4))), .int (nI (2 * ((ls.length + 3) / 4) + ((ls.length + 3) / 4)))]) rfl rfl rfl (Nat.le_of_ble_eq_true rfl) (M_hP1.rcv hm) ?_
  refine m_stb8 (L := L) hm M_hP1 ⟨(FI_IP1 33 (by decide)).trans hL.1, fun i hi => by rw [FA_AP1 20 (by decide)]; exact hL.2 i hi⟩ hls (fun s hs => by rw [FA_AP1 8 (by decide)]; exact hLn2 s hs) (by omega) (by omega) ?_
  show WX _ _ _ 33 [(0, .ref m), (1, .int (nI ((ls.length + 3) / 4))), (2, .int 2)] [.int (nI (stb L ls (2 * ((ls.length + 3) / 4)) (2 * ((ls.length + 3) / 4) + ((ls.length + 3) / 4)))), .ref m] (n, s, hP1)
  refine WX.s1 rfl rfl ?_
  obtain ⟨wP2, hmP2, hlP2⟩ := YP1
  have hxP2 := hstb (2 * ((ls.length + 3) / 4)) (2 * ((ls.length + 3) / 4) + ((ls.length + 3) / 4)) (by omega) (by omega)
  refine WX.callC (vs := [.ref m, .int (nI (stb L ls (2 * ((ls.length + 3) / 4)) (2 * ((ls.length + 3) / 4) + ((ls.length + 3) / 4)))), .int (nI 16)]) rfl rfl rfl (Nat.le_of_ble_eq_true rfl) (M_hP1.rcv hm) ?_
  refine m_putV hm M_hP1 hmP2 (by omega) (by decide) (by rw [show ((([] : List Nat) ++ leBy (stb L ls (0 * ((ls.length + 3) / 4)) (0 * ((ls.length + 3) / 4) + ((ls.length + 3) / 4))) 2) ++ leBy (stb L ls (1 * ((ls.length + 3) / 4)) (1 * ((ls.length + 3) / 4) + ((ls.length + 3) / 4))) 2).length = 4 by simp [leBy_len]]; decide) (fun hP2 IP2 AP2 frP2 M_hP2 fiP2 faP2 RP2 => ?_)
  have YP2 : MadeY IP2 AP2 (((([] : List Nat) ++ leBy (stb L ls (0 * ((ls.length + 3) / 4)) (0 * ((ls.length + 3) / 4) + ((ls.length + 3) / 4))) 2) ++ leBy (stb L ls (1 * ((ls.length + 3) / 4)) (1 * ((ls.length + 3) / 4) + ((ls.length + 3) / 4))) 2) ++ leBy (stb L ls (2 * ((ls.length + 3) / 4)) (2 * ((ls.length + 3) / 4) + ((ls.length + 3) / 4))) 2) := MadeY.num (I := I) (A := AR) (k := 2) hlP2 hmP2.2.2.1 hxP2 rfl RP2
  have FR_hP2 := FR_hP1.ztr frP2
  have FI_IP2 : Fi I IP2 (fun f => f = 38) := FI_IP1.ztr fiP2
  have FA_AP2 : Fa AR AP2 24 := FA_AP1.ztr faP2
  have K_IP2_33 : IP2 33 = (nI ls.length) := (fiP2 33 (by decide)).trans K_IP1_33
  have K_IP2_15 : IP2 15 = (nI t) := (fiP2 15 (by decide)).trans K_IP1_15
  show WX _ _ _ 38 [(0, .ref m), (1, .int (nI ((ls.length + 3) / 4))), (2, .int 2)] [] (n, s, hP2)
  refine WX.s1 (L' := [(0, .ref m), (1, .int (nI ((ls.length + 3) / 4))), (2, .int (2 + 1))]) rfl rfl ?_
  rw [show ((2 : Int32) + 1) = 3 from rfl]
  refine WX.s1 rfl rfl ?_
  refine WX.s1 rfl rfl ?_
  refine WX.s1 rfl rfl ?_
  refine WX.icmp rfl (fun c_13 => ?_) (fun c_13 => absurd (by decide) c_13)
  clear c_13
  refine WX.s1 rfl rfl ?_
  refine WX.s1 (L' := [(0, .ref m), (1, .int (nI ((ls.length + 3) / 4))), (2, .int 0)]) rfl rfl ?_
  refine WX.s1 rfl rfl ?_
  refine WX.s1 rfl rfl ?_
  refine WX.icmp rfl (fun c_48 => absurd c_48 (by decide)) (fun c_48 => ?_)
  clear c_48
  refine WX.s1 rfl rfl ?_
  refine WX.s1 rfl rfl ?_
  refine WX.s1 rfl rfl ?_
  refine WX.s1 (S' := [.int (0 * (nI ((ls.length + 3) / 4))), .ref m]) rfl rfl ?_
  rw [show (0 * (nI ((ls.length + 3) / 4))) = nI (0 * ((ls.length + 3) / 4)) from (Int32.ofNat_mul 0 ((ls.length + 3) / 4)).symm]
  refine WX.s1 rfl rfl ?_
  refine WX.s1 rfl rfl ?_
  refine WX.s1 (S' := [.int (0 * (nI ((ls.length + 3) / 4))), .int (nI (0 * ((ls.length + 3) / 4))), .ref m]) rfl rfl ?_
  rw [show (0 * (nI ((ls.length + 3) / 4))) = nI (0 * ((ls.length + 3) / 4)) from (Int32.ofNat_mul 0 ((ls.length + 3) / 4)).symm]
  refine WX.s1 rfl rfl ?_
  refine WX.s1 (S' := [.int ((nI (0 * ((ls.length + 3) / 4))) + (nI ((ls.length + 3) / 4))), .int (nI (0 * ((ls.length + 3) / 4))), .ref m]) rfl rfl ?_
  rw [show ((nI (0 * ((ls.length + 3) / 4))) + (nI ((ls.length + 3) / 4))) = nI (0 * ((ls.length + 3) / 4) + ((ls.length + 3) / 4)) from nI_add (0 * ((ls.length + 3) / 4)) ((ls.length + 3) / 4)]
  have hylS0 : 8 * ((((([] : List Nat) ++ leBy (stb L ls (0 * ((ls.length + 3) / 4)) (0 * ((ls.length + 3) / 4) + ((ls.length + 3) / 4))) 2) ++ leBy (stb L ls (1 * ((ls.length + 3) / 4)) (1 * ((ls.length + 3) / 4) + ((ls.length + 3) / 4))) 2) ++ leBy (stb L ls (2 * ((ls.length + 3) / 4)) (2 * ((ls.length + 3) / 4) + ((ls.length + 3) / 4))) 2)).length + 11 * 8000 + 16 ≤ 192000 := by
    simp only [List.length_append, leBy_len, List.length_nil]
    omega
  refine WX.callC (vs := [.ref m, .int (nI (0 * ((ls.length + 3) / 4))), .int (nI (0 * ((ls.length + 3) / 4) + ((ls.length + 3) / 4)))]) rfl rfl rfl (Nat.le_of_ble_eq_true rfl) (M_hP2.rcv hm) ?_
  refine m_pst hm M_hP2 ⟨(FI_IP2 33 (by decide)).trans hL.1, fun i hi => by rw [FA_AP2 20 (by decide)]; exact hL.2 i hi⟩ hls hok (fun s hs => by rw [FA_AP2 8 (by decide)]; exact hLn s hs) hlz ⟨fun s hs hl => by rw [FA_AP2 38 (by decide)]; exact hC.1 s hs hl, fun s x hs hl hx => by rw [FA_AP2 38 (by decide)]; exact hC.2 s x hs hl hx⟩ (by omega) (by omega) YP2 hylS0 K_IP2_15 (fun hS0 IS0 AS0 frS0 M_hS0 fiS0 faS0 YS0 => ?_)
  rw [show (0 * ((ls.length + 3) / 4) + ((ls.length + 3) / 4)) - (0 * ((ls.length + 3) / 4)) = ((ls.length + 3) / 4) by omega] at YS0
  have FR_hS0 := FR_hP2.ztr frS0
  have FI_IS0 : Fi I IS0 (fun f => f = 38) := FI_IP2.ztr fiS0
  have FA_AS0 : Fa AR AS0 24 := FA_AP2.ztr faS0
  have K_IS0_33 : IS0 33 = (nI ls.length) := (fiS0 33 (by decide)).trans K_IP2_33
  have K_IS0_15 : IS0 15 = (nI t) := (fiS0 15 (by decide)).trans K_IP2_15
  show WX _ _ _ 63 [(0, .ref m), (1, .int (nI ((ls.length + 3) / 4))), (2, .int 0)] [] (n, s, hS0)
  refine WX.s1 (L' := [(0, .ref m), (1, .int (nI ((ls.length + 3) / 4))), (2, .int (0 + 1))]) rfl rfl ?_
  rw [show ((0 : Int32) + 1) = 1 from rfl]
  refine WX.s1 rfl rfl ?_
  refine WX.s1 rfl rfl ?_
  refine WX.s1 rfl rfl ?_
  refine WX.icmp rfl (fun c_48 => absurd c_48 (by decide)) (fun c_48 => ?_)
  clear c_48
  refine WX.s1 rfl rfl ?_
  refine WX.s1 rfl rfl ?_
  refine WX.s1 rfl rfl ?_
  refine WX.s1 (S' := [.int (1 * (nI ((ls.length + 3) / 4))), .ref m]) rfl rfl ?_
  rw [show (1 * (nI ((ls.length + 3) / 4))) = nI (1 * ((ls.length + 3) / 4)) from (Int32.ofNat_mul 1 ((ls.length + 3) / 4)).symm]
  refine WX.s1 rfl rfl ?_
  refine WX.s1 rfl rfl ?_
  refine WX.s1 (S' := [.int (1 * (nI ((ls.length + 3) / 4))), .int (nI (1 * ((ls.length + 3) / 4))), .ref m]) rfl rfl ?_
  rw [show (1 * (nI ((ls.length + 3) / 4))) = nI (1 * ((ls.length + 3) / 4)) from (Int32.ofNat_mul 1 ((ls.length + 3) / 4)).symm]
  refine WX.s1 rfl rfl ?_
  refine WX.s1 (S' := [.int ((nI (1 * ((ls.length + 3) / 4))) + (nI ((ls.length + 3) / 4))), .int (nI (1 * ((ls.length + 3) / 4))), .ref m]) rfl rfl ?_
  rw [show ((nI (1 * ((ls.length + 3) / 4))) + (nI ((ls.length + 3) / 4))) = nI (1 * ((ls.length + 3) / 4) + ((ls.length + 3) / 4)) from nI_add (1 * ((ls.length + 3) / 4)) ((ls.length + 3) / 4)]
  have hylS1 : 8 * (((((([] : List Nat) ++ leBy (stb L ls (0 * ((ls.length + 3) / 4)) (0 * ((ls.length + 3) / 4) + ((ls.length + 3) / 4))) 2) ++ leBy (stb L ls (1 * ((ls.length + 3) / 4)) (1 * ((ls.length + 3) / 4) + ((ls.length + 3) / 4))) 2) ++ leBy (stb L ls (2 * ((ls.length + 3) / 4)) (2 * ((ls.length + 3) / 4) + ((ls.length + 3) / 4))) 2) ++ sY L t ls (0 * ((ls.length + 3) / 4)) ((ls.length + 3) / 4))).length + 11 * 8000 + 16 ≤ 192000 := by
    have z0 := hsyl (0 * ((ls.length + 3) / 4)) ((ls.length + 3) / 4) (by omega)
    simp only [List.length_append, leBy_len, List.length_nil]
    omega
  refine WX.callC (vs := [.ref m, .int (nI (1 * ((ls.length + 3) / 4))), .int (nI (1 * ((ls.length + 3) / 4) + ((ls.length + 3) / 4)))]) rfl rfl rfl (Nat.le_of_ble_eq_true rfl) (M_hS0.rcv hm) ?_
  refine m_pst hm M_hS0 ⟨(FI_IS0 33 (by decide)).trans hL.1, fun i hi => by rw [FA_AS0 20 (by decide)]; exact hL.2 i hi⟩ hls hok (fun s hs => by rw [FA_AS0 8 (by decide)]; exact hLn s hs) hlz ⟨fun s hs hl => by rw [FA_AS0 38 (by decide)]; exact hC.1 s hs hl, fun s x hs hl hx => by rw [FA_AS0 38 (by decide)]; exact hC.2 s x hs hl hx⟩ (by omega) (by omega) YS0 hylS1 K_IS0_15 (fun hS1 IS1 AS1 frS1 M_hS1 fiS1 faS1 YS1 => ?_)
  rw [show (1 * ((ls.length + 3) / 4) + ((ls.length + 3) / 4)) - (1 * ((ls.length + 3) / 4)) = ((ls.length + 3) / 4) by omega] at YS1
  have FR_hS1 := FR_hS0.ztr frS1
  have FI_IS1 : Fi I IS1 (fun f => f = 38) := FI_IS0.ztr fiS1
  have FA_AS1 : Fa AR AS1 24 := FA_AS0.ztr faS1
  have K_IS1_33 : IS1 33 = (nI ls.length) := (fiS1 33 (by decide)).trans K_IS0_33
  have K_IS1_15 : IS1 15 = (nI t) := (fiS1 15 (by decide)).trans K_IS0_15
  show WX _ _ _ 63 [(0, .ref m), (1, .int (nI ((ls.length + 3) / 4))), (2, .int 1)] [] (n, s, hS1)
  refine WX.s1 (L' := [(0, .ref m), (1, .int (nI ((ls.length + 3) / 4))), (2, .int (1 + 1))]) rfl rfl ?_
  rw [show ((1 : Int32) + 1) = 2 from rfl]
  refine WX.s1 rfl rfl ?_
  refine WX.s1 rfl rfl ?_
  refine WX.s1 rfl rfl ?_
  refine WX.icmp rfl (fun c_48 => absurd c_48 (by decide)) (fun c_48 => ?_)
  clear c_48
  refine WX.s1 rfl rfl ?_
  refine WX.s1 rfl rfl ?_
  refine WX.s1 rfl rfl ?_
  refine WX.s1 (S' := [.int (2 * (nI ((ls.length + 3) / 4))), .ref m]) rfl rfl ?_
  rw [show (2 * (nI ((ls.length + 3) / 4))) = nI (2 * ((ls.length + 3) / 4)) from (Int32.ofNat_mul 2 ((ls.length + 3) / 4)).symm]
  refine WX.s1 rfl rfl ?_
  refine WX.s1 rfl rfl ?_
  refine WX.s1 (S' := [.int (2 * (nI ((ls.length + 3) / 4))), .int (nI (2 * ((ls.length + 3) / 4))), .ref m]) rfl rfl ?_
  rw [show (2 * (nI ((ls.length + 3) / 4))) = nI (2 * ((ls.length + 3) / 4)) from (Int32.ofNat_mul 2 ((ls.length + 3) / 4)).symm]
  refine WX.s1 rfl rfl ?_
  refine WX.s1 (S' := [.int ((nI (2 * ((ls.length + 3) / 4))) + (nI ((ls.length + 3) / 4))), .int (nI (2 * ((ls.length + 3) / 4))), .ref m]) rfl rfl ?_
  rw [show ((nI (2 * ((ls.length + 3) / 4))) + (nI ((ls.length + 3) / 4))) = nI (2 * ((ls.length + 3) / 4) + ((ls.length + 3) / 4)) from nI_add (2 * ((ls.length + 3) / 4)) ((ls.length + 3) / 4)]
  have hylS2 : 8 * ((((((([] : List Nat) ++ leBy (stb L ls (0 * ((ls.length + 3) / 4)) (0 * ((ls.length + 3) / 4) + ((ls.length + 3) / 4))) 2) ++ leBy (stb L ls (1 * ((ls.length + 3) / 4)) (1 * ((ls.length + 3) / 4) + ((ls.length + 3) / 4))) 2) ++ leBy (stb L ls (2 * ((ls.length + 3) / 4)) (2 * ((ls.length + 3) / 4) + ((ls.length + 3) / 4))) 2) ++ sY L t ls (0 * ((ls.length + 3) / 4)) ((ls.length + 3) / 4)) ++ sY L t ls (1 * ((ls.length + 3) / 4)) ((ls.length + 3) / 4))).length + 11 * 8000 + 16 ≤ 192000 := by
    have z0 := hsyl (0 * ((ls.length + 3) / 4)) ((ls.length + 3) / 4) (by omega)
    have z1 := hsyl (1 * ((ls.length + 3) / 4)) ((ls.length + 3) / 4) (by omega)
    simp only [List.length_append, leBy_len, List.length_nil]
    omega
  refine WX.callC (vs := [.ref m, .int (nI (2 * ((ls.length + 3) / 4))), .int (nI (2 * ((ls.length + 3) / 4) + ((ls.length + 3) / 4)))]) rfl rfl rfl (Nat.le_of_ble_eq_true rfl) (M_hS1.rcv hm) ?_
  refine m_pst hm M_hS1 ⟨(FI_IS1 33 (by decide)).trans hL.1, fun i hi => by rw [FA_AS1 20 (by decide)]; exact hL.2 i hi⟩ hls hok (fun s hs => by rw [FA_AS1 8 (by decide)]; exact hLn s hs) hlz ⟨fun s hs hl => by rw [FA_AS1 38 (by decide)]; exact hC.1 s hs hl, fun s x hs hl hx => by rw [FA_AS1 38 (by decide)]; exact hC.2 s x hs hl hx⟩ (by omega) (by omega) YS1 hylS2 K_IS1_15 (fun hS2 IS2 AS2 frS2 M_hS2 fiS2 faS2 YS2 => ?_)
  rw [show (2 * ((ls.length + 3) / 4) + ((ls.length + 3) / 4)) - (2 * ((ls.length + 3) / 4)) = ((ls.length + 3) / 4) by omega] at YS2
  have FR_hS2 := FR_hS1.ztr frS2
  have FI_IS2 : Fi I IS2 (fun f => f = 38) := FI_IS1.ztr fiS2
  have FA_AS2 : Fa AR AS2 24 := FA_AS1.ztr faS2
  have K_IS2_33 : IS2 33 = (nI ls.length) := (fiS2 33 (by decide)).trans K_IS1_33
  have K_IS2_15 : IS2 15 = (nI t) := (fiS2 15 (by decide)).trans K_IS1_15
  show WX _ _ _ 63 [(0, .ref m), (1, .int (nI ((ls.length + 3) / 4))), (2, .int 2)] [] (n, s, hS2)
  refine WX.s1 (L' := [(0, .ref m), (1, .int (nI ((ls.length + 3) / 4))), (2, .int (2 + 1))]) rfl rfl ?_
  rw [show ((2 : Int32) + 1) = 3 from rfl]
  refine WX.s1 rfl rfl ?_
  refine WX.s1 rfl rfl ?_
  refine WX.s1 rfl rfl ?_
  refine WX.icmp rfl (fun c_48 => ?_) (fun c_48 => absurd (by decide) c_48)
  clear c_48
  refine WX.s1 rfl rfl ?_
  refine WX.s1 rfl rfl ?_
  refine WX.s1 rfl rfl ?_
  refine WX.s1 (S' := [.int (3 * (nI ((ls.length + 3) / 4))), .ref m]) rfl rfl ?_
  rw [show (3 * (nI ((ls.length + 3) / 4))) = nI (3 * ((ls.length + 3) / 4)) from (Int32.ofNat_mul 3 ((ls.length + 3) / 4)).symm]
  refine WX.s1 rfl rfl ?_
  refine WX.mgetK (x := (nI ls.length)) rfl hm M_hS2 rfl K_IS2_33 ?_
  have hylS3 : 8 * (((((((([] : List Nat) ++ leBy (stb L ls (0 * ((ls.length + 3) / 4)) (0 * ((ls.length + 3) / 4) + ((ls.length + 3) / 4))) 2) ++ leBy (stb L ls (1 * ((ls.length + 3) / 4)) (1 * ((ls.length + 3) / 4) + ((ls.length + 3) / 4))) 2) ++ leBy (stb L ls (2 * ((ls.length + 3) / 4)) (2 * ((ls.length + 3) / 4) + ((ls.length + 3) / 4))) 2) ++ sY L t ls (0 * ((ls.length + 3) / 4)) ((ls.length + 3) / 4)) ++ sY L t ls (1 * ((ls.length + 3) / 4)) ((ls.length + 3) / 4)) ++ sY L t ls (2 * ((ls.length + 3) / 4)) ((ls.length + 3) / 4))).length + 11 * 8000 + 16 ≤ 192000 := by
    have z0 := hsyl (0 * ((ls.length + 3) / 4)) ((ls.length + 3) / 4) (by omega)
    have z1 := hsyl (1 * ((ls.length + 3) / 4)) ((ls.length + 3) / 4) (by omega)
    have z2 := hsyl (2 * ((ls.length + 3) / 4)) ((ls.length + 3) / 4) (by omega)
    simp only [List.length_append, leBy_len, List.length_nil]
    omega
  refine WX.callC (vs := [.ref m, .int (nI (3 * ((ls.length + 3) / 4))), .int (nI ls.length)]) rfl rfl rfl (Nat.le_of_ble_eq_true rfl) (M_hS2.rcv hm) ?_
  refine m_pst hm M_hS2 ⟨(FI_IS2 33 (by decide)).trans hL.1, fun i hi => by rw [FA_AS2 20 (by decide)]; exact hL.2 i hi⟩ hls hok (fun s hs => by rw [FA_AS2 8 (by decide)]; exact hLn s hs) hlz ⟨fun s hs hl => by rw [FA_AS2 38 (by decide)]; exact hC.1 s hs hl, fun s x hs hl hx => by rw [FA_AS2 38 (by decide)]; exact hC.2 s x hs hl hx⟩ (by omega) (by omega) YS2 hylS3 K_IS2_15 (fun hS3 IS3 AS3 frS3 M_hS3 fiS3 faS3 YS3 => ?_)
  refine WX.ret0 rfl (kk hS3 IS3 AS3 (FR_hS2.ztr frS3) M_hS3 (FI_IS2.ztr fiS3) (FA_AS2.ztr faS3) ?_)
  unfold frY
  simpa only [List.append_assoc, List.nil_append] using YS3
