/-! the reference: the literals' streams -/
def stb (L : Nat → Nat) (ls : List Nat) (f e : Nat) : Nat := sumN (fun i => L (ls.getD (f + i) 0)) (e - f) / 8 + 1
def frb (L : Nat → Nat) (ls : List Nat) : Nat := 6 + stb L ls 0 ((ls.length + 3) / 4) + stb L ls ((ls.length + 3) / 4) (2 * ((ls.length + 3) / 4)) + stb L ls (2 * ((ls.length + 3) / 4)) (3 * ((ls.length + 3) / 4)) + stb L ls (3 * ((ls.length + 3) / 4)) ls.length
def tob (L : Nat → Nat) (ls : List Nat) : Nat := if ls.length < 1024 then stb L ls 0 ls.length else frb L ls
def LnM (A : Nat → Nat → Int32) (c : Nat) (L : Nat → Nat) : Prop := ∀ s, s < 256 → A c s = nI (L s) ∧ L s ≤ 18
theorem sum18 {L : Nat → Nat} {ls : List Nat} (hl : ∀ s, s < 256 → L s ≤ 18) (h : ∀ s, s ∈ ls → s < 256) {f : Nat} : ∀ k, f + k ≤ ls.length → sumN (fun i => L (ls.getD (f + i) 0)) k ≤ 18 * k := by
  intro k
  induction k with
  | zero => intro _; exact Nat.le_refl _
  | succ k ih =>
    intro hk
    have a := ih (by omega)
    have b := hl _ (h _ (getD_mem (show f + k < ls.length by omega)))
    show sumN _ k + L (ls.getD (f + k) 0) ≤ _
    omega
def CeM (A : Nat → Nat → Int32) (L : Nat → Nat) (t : Nat) : Prop := (∀ s, s < 256 → L s ≠ 0 → A 38 (stK L t s) = nI s) ∧ ∀ s x, s < 256 → L s ≠ 0 → x < stK L t s → A 38 x ≠ nI s
def CeQ (A : Nat → Nat → Int32) (L : Nat → Nat) (t c : Nat) : Prop := ∀ s x, s < 256 → L s ≠ 0 → x < c → A 38 x = nI s → stK L t s ≤ x
def CeR (A : Nat → Nat → Int32) (L : Nat → Nat) (t w i : Nat) : Prop := ∀ s, s < 256 → L s ≠ 0 → (wgK L t s < w ∨ (wgK L t s = w ∧ s < i)) → A 38 (stK L t s) = nI s
theorem st_lt {L : Nat → Nat} {t s w i : Nat} (h : LenOk L t) (hs : s < 256) (hl : L s ≠ 0) (hi : i ≤ 256) (hw : wgK L t s < w ∨ (wgK L t s = w ∧ s < i)) : stK L t s < bgK L t w + cwK L t w i := by
  obtain ⟨q1, q2⟩ := st_in h hs hl
  have q3 : 0 < 2 ^ (wgK L t s - 1) := Nat.pow_pos (by decide)
  rcases hw with z | ⟨z, y⟩
  · have q4 := bg_mono L t (show wgK L t s + 1 ≤ w by omega)
    generalize 2 ^ (wgK L t s - 1) = a at *
    generalize 2 ^ t = b at *
    omega
  · have q4 := cw_s (L := L) (t := t) (s := s) rfl
    have q5 := cw_mono L t (wgK L t s) (show s + 1 ≤ i by omega)
    unfold stK
    rw [z] at q4 q5 q3 ⊢
    generalize 2 ^ (w - 1) = a at *
    omega
theorem wg_iff {L : Nat → Nat} {t s w : Nat} (h : LenOk L t) (hs : s < 256) (h1 : 1 ≤ w) (h2 : w ≤ t) : L s = t + 1 - w ↔ (L s ≠ 0 ∧ wgK L t s = w) := by
  have := h.2.2.1 s hs
  unfold wgK
  by_cases z : L s = 0
  · rw [if_pos z]; omega
  · rw [if_neg z]; omega
set_option maxRecDepth 20000 in
theorem m_stb8 {d n s : Nat} {h : Nat → aE} {m : Nat} {I : Nat → Int32} {AR : Nat → Nat → Int32} {LN : Nat → Int64} {ls : List Nat} {L : Nat → Nat} {f e : Nat} (hm : m + 43 < n) (M_h : MAt h m I AR LN) (hL : LitM I AR ls) (hls : LsOk ls) (hLn : LnM AR 8 L) (hfe : f ≤ e) (hel : e ≤ ls.length)  {Ψ : Option Value → aH → Prop} (kk : Ψ (some (.int (nI (stb L ls f e)))) (n, s, h)) : WO (mM (d + 1)) 182 [.ref m, .ref (m + 8), .int (nI f), .int (nI e)] (n, s, h) Ψ := by
  refine WO.of (Nat.le_of_ble_eq_true rfl) ?_
  have FR_h : Fr h h (inM m) := Fr.rf
  have FI_I : Fi I I (fun f => f = 40) := Fi.rf
  have hlen := hls.2
  show WX (lk tX12_streamBytes) (mM d) Ψ 0 [(0, .ref m), (1, .ref (m + 8)), (2, .int (nI f)), (3, .int (nI e))] [] (n, s, h)
  refine WX.s1 rfl rfl ?_
  refine WX.s1 (L' := [(0, .ref m), (1, .ref (m + 8)), (2, .int (nI f)), (3, .int (nI e)), (4, .int 1)]) rfl rfl ?_
  refine WX.s1 rfl rfl ?_
  refine WX.s1 (L' := [(0, .ref m), (1, .ref (m + 8)), (2, .int (nI f)), (3, .int (nI e)), (4, .int 1), (5, .int (nI f))]) rfl rfl ?_
  have lp : ∀ (t i : Nat), f + i + t = e → WX (lk tX12_streamBytes) (mM d) Ψ 6 [(0, .ref m), (1, .ref (m + 8)), (2, .int (nI f)), (3, .int (nI e)), (4, .int (nI (1 + (sumN (fun i => L (ls.getD (f + i) 0)) i)))), (5, .int (nI (f + i)))] [] (n, s, h) := by
    intro t
    induction t with
    | zero =>
      intro i hi
      have hb := sum18 (fun s hs => (hLn s hs).2) hls.1 (f := f) i (by omega)
      obtain rfl : i = e - f := by omega
      refine WX.s1 rfl rfl ?_
      refine WX.s1 rfl rfl ?_
      refine WX.icmp rfl (fun c_9 => ?_) (fun c_9 => absurd ((nI_leI (a := e) (b := f + (e - f)) (by omega) (by omega)).mpr (by omega)) c_9)
      clear c_9
      refine WX.s1 rfl rfl ?_
      refine WX.s1 rfl rfl ?_
      refine WX.s1 (S' := [.int ((nI (1 + (sumN (fun i => L (ls.getD (f + i) 0)) (e - f)))) + 7)]) rfl rfl ?_
      rw [show ((nI (1 + (sumN (fun i => L (ls.getD (f + i) 0)) (e - f)))) + 7) = nI (1 + (sumN (fun i => L (ls.getD (f + i) 0)) (e - f)) + 7) from nI_add (1 + (sumN (fun i => L (ls.getD (f + i) 0)) (e - f))) 7]
      refine WX.s1 rfl rfl ?_
      refine WX.div rfl (by decide) ?_
      rw [show nI (1 + (sumN (fun i => L (ls.getD (f + i) 0)) (e - f)) + 7) / 8 = nI ((1 + (sumN (fun i => L (ls.getD (f + i) 0)) (e - f)) + 7) / 8) from pk_div (by omega) (by decide) (by decide), show (1 + (sumN (fun i => L (ls.getD (f + i) 0)) (e - f)) + 7) / 8 = stb L ls f e by unfold stb; omega]
      exact WX.ret1 rfl kk
    | succ t ih =>
      intro i hi
      have hb := sum18 (fun s hs => (hLn s hs).2) hls.1 (f := f) i (by omega)
      have y1 := hL.2 (f + i) (by omega)
      have y2 := hls.1 _ (getD_mem (show f + i < ls.length by omega))
      obtain ⟨l1, l2⟩ := hLn _ y2
      have hss : 1 + (sumN (fun i => L (ls.getD (f + i) 0)) (i + 1)) = 1 + (sumN (fun i => L (ls.getD (f + i) 0)) i) + L (ls.getD (f + i) 0) := (Nat.add_assoc 1 _ _).symm
      refine WX.s1 rfl rfl ?_
      refine WX.s1 rfl rfl ?_
      refine WX.icmp rfl (fun c_9 => absurd c_9 (fun zz_ => absurd ((nI_leI (a := e) (b := f + i) (by omega) (by omega)).mp zz_) (Nat.not_le.mpr (by omega)))) (fun c_9 => ?_)
      clear c_9
      refine WX.s1 rfl rfl ?_
      refine WX.s1 rfl rfl ?_
      refine WX.s1 rfl rfl ?_
      refine WX.mget rfl hm M_h rfl ?_
      refine WX.s1 rfl rfl ?_
      refine WX.mald (c := 20) rfl hm M_h (by decide) (by decide) (by decide) (by decide) (vp_in_nI (N := 8001) (by omega) (by decide)) ?_
      rw [nI_clamp (by omega), y1]
      refine WX.mald (c := 8) rfl hm M_h (by decide) (by decide) (by decide) (by decide) (vp_in_nI (N := 256) (by omega) (by decide)) ?_
      rw [nI_clamp (by omega), l1]
      refine WX.s1 (S' := [.int ((nI (1 + (sumN (fun i => L (ls.getD (f + i) 0)) i))) + (nI (L (ls.getD (f + i) 0))))]) rfl rfl ?_
      rw [show ((nI (1 + (sumN (fun i => L (ls.getD (f + i) 0)) i))) + (nI (L (ls.getD (f + i) 0)))) = nI (1 + (sumN (fun i => L (ls.getD (f + i) 0)) i) + (L (ls.getD (f + i) 0))) from nI_add (1 + (sumN (fun i => L (ls.getD (f + i) 0)) i)) (L (ls.getD (f + i) 0))]
      refine WX.s1 (L' := [(0, .ref m), (1, .ref (m + 8)), (2, .int (nI f)), (3, .int (nI e)), (4, .int (nI (1 + (sumN (fun i => L (ls.getD (f + i) 0)) i) + (L (ls.getD (f + i) 0))))), (5, .int (nI (f + i)))]) rfl rfl ?_
      rw [← hss]
      refine WX.s1 (L' := [(0, .ref m), (1, .ref (m + 8)), (2, .int (nI f)), (3, .int (nI e)), (4, .int (nI (1 + (sumN (fun i => L (ls.getD (f + i) 0)) (i + 1))))), (5, .int ((nI (f + i)) + 1))]) rfl rfl ?_
      rw [show ((nI (f + i)) + 1) = nI (f + i + 1) from nI_add (f + i) 1]
      refine WX.s1 rfl rfl ?_
      exact ih (i + 1) (by omega)
  exact lp (e - f) 0 (by omega)
set_option maxRecDepth 20000 in
theorem m_frb8 {d n s : Nat} {h : Nat → aE} {m : Nat} {I : Nat → Int32} {AR : Nat → Nat → Int32} {LN : Nat → Int64} {ls : List Nat} {L : Nat → Nat} (hm : m + 43 < n) (M_h : MAt h m I AR LN) (hL : LitM I AR ls) (hls : LsOk ls) (hLn : LnM AR 8 L) (h1024 : 1024 ≤ ls.length) (K_I_33 : I 33 = (nI ls.length)) {Ψ : Option Value → aH → Prop} (kk : Ψ (some (.int (nI (frb L ls)))) (n, s, h)) : WO (mM (d + 2)) 183 [.ref m, .ref (m + 8)] (n, s, h) Ψ := by
  refine WO.of (Nat.le_of_ble_eq_true rfl) ?_
  have FR_h : Fr h h (inM m) := Fr.rf
  have FI_I : Fi I I (fun f => f = 40) := Fi.rf
  have hlen := hls.2
  show WX (lk tX12_fourBytes) (mM (d + 1)) Ψ 0 [(0, .ref m), (1, .ref (m + 8))] [] (n, s, h)
  refine WX.s1 rfl rfl ?_
  refine WX.mgetK (x := (nI ls.length)) rfl hm M_h rfl K_I_33 ?_
  refine WX.s1 rfl rfl ?_
  refine WX.s1 (S' := [.int ((nI ls.length) + 3)]) rfl rfl ?_
  rw [show ((nI ls.length) + 3) = nI (ls.length + 3) from nI_add ls.length 3]
  refine WX.s1 rfl rfl ?_
  refine WX.div rfl (by decide) ?_
  rw [show nI (ls.length + 3) / 4 = nI ((ls.length + 3) / 4) from pk_div (by omega) (by decide) (by decide)]
  refine WX.s1 (L' := [(0, .ref m), (1, .ref (m + 8)), (2, .int (nI ((ls.length + 3) / 4)))]) rfl rfl ?_
  refine WX.s1 rfl rfl ?_
  refine WX.s1 rfl rfl ?_
  refine WX.s1 rfl rfl ?_
  refine WX.s1 rfl rfl ?_
  refine WX.s1 rfl rfl ?_
  refine WX.callC (vs := [.ref m, .ref (m + 8), .int (nI 0), .int (nI ((ls.length + 3) / 4))]) rfl rfl rfl (Nat.le_of_ble_eq_true rfl) (M_h.rcv hm) ?_
  refine m_stb8 hm M_h hL hls hLn (by omega) (by omega) ?_
  show WX _ _ _ 18 [(0, .ref m), (1, .ref (m + 8)), (2, .int (nI ((ls.length + 3) / 4)))] [.int (nI (stb L ls 0 ((ls.length + 3) / 4))), .int 6] (n, s, h)
  refine WX.s1 (S' := [.int (6 + (nI (stb L ls 0 ((ls.length + 3) / 4))))]) rfl rfl ?_
  rw [show (6 + (nI (stb L ls 0 ((ls.length + 3) / 4)))) = nI (6 + (stb L ls 0 ((ls.length + 3) / 4))) from nI_add 6 (stb L ls 0 ((ls.length + 3) / 4))]
  refine WX.s1 rfl rfl ?_
  refine WX.s1 rfl rfl ?_
  refine WX.s1 rfl rfl ?_
  refine WX.s1 rfl rfl ?_
  refine WX.s1 rfl rfl ?_
  refine WX.s1 (S' := [.int (2 * (nI ((ls.length + 3) / 4))), .int (nI ((ls.length + 3) / 4)), .ref (m + 8), .ref m, .int (nI (6 + (stb L ls 0 ((ls.length + 3) / 4))))]) rfl rfl ?_
  rw [show (2 * (nI ((ls.length + 3) / 4))) = nI (2 * ((ls.length + 3) / 4)) from (Int32.ofNat_mul 2 ((ls.length + 3) / 4)).symm]
  refine WX.callC (vs := [.ref m, .ref (m + 8), .int (nI ((ls.length + 3) / 4)), .int (nI (2 * ((ls.length + 3) / 4)))]) rfl rfl rfl (Nat.le_of_ble_eq_true rfl) (M_h.rcv hm) ?_
  refine m_stb8 hm M_h hL hls hLn (by omega) (by omega) ?_
  show WX _ _ _ 28 [(0, .ref m), (1, .ref (m + 8)), (2, .int (nI ((ls.length + 3) / 4)))] [.int (nI (stb L ls ((ls.length + 3) / 4) (2 * ((ls.length + 3) / 4)))), .int (nI (6 + (stb L ls 0 ((ls.length + 3) / 4))))] (n, s, h)
  refine WX.s1 (S' := [.int ((nI (6 + (stb L ls 0 ((ls.length + 3) / 4)))) + (nI (stb L ls ((ls.length + 3) / 4) (2 * ((ls.length + 3) / 4)))))]) rfl rfl ?_
  rw [show ((nI (6 + (stb L ls 0 ((ls.length + 3) / 4)))) + (nI (stb L ls ((ls.length + 3) / 4) (2 * ((ls.length + 3) / 4))))) = nI (6 + (stb L ls 0 ((ls.length + 3) / 4)) + (stb L ls ((ls.length + 3) / 4) (2 * ((ls.length + 3) / 4)))) from nI_add (6 + (stb L ls 0 ((ls.length + 3) / 4))) (stb L ls ((ls.length + 3) / 4) (2 * ((ls.length + 3) / 4)))]
  refine WX.s1 rfl rfl ?_
  refine WX.s1 rfl rfl ?_
  refine WX.s1 rfl rfl ?_
  refine WX.s1 rfl rfl ?_
  refine WX.s1 (S' := [.int (2 * (nI ((ls.length + 3) / 4))), .ref (m + 8), .ref m, .int (nI (6 + (stb L ls 0 ((ls.length + 3) / 4)) + (stb L ls ((ls.length + 3) / 4) (2 * ((ls.length + 3) / 4)))))]) rfl rfl ?_
  rw [show (2 * (nI ((ls.length + 3) / 4))) = nI (2 * ((ls.length + 3) / 4)) from (Int32.ofNat_mul 2 ((ls.length + 3) / 4)).symm]
  refine WX.s1 rfl rfl ?_
  refine WX.s1 rfl rfl ?_
  refine WX.s1 (S' := [.int (3 * (nI ((ls.length + 3) / 4))), .int (nI (2 * ((ls.length + 3) / 4))), .ref (m + 8), .ref m, .int (nI (6 + (stb L ls 0 ((ls.length + 3) / 4)) + (stb L ls ((ls.length + 3) / 4) (2 * ((ls.length + 3) / 4)))))]) rfl rfl ?_
  rw [show (3 * (nI ((ls.length + 3) / 4))) = nI (3 * ((ls.length + 3) / 4)) from (Int32.ofNat_mul 3 ((ls.length + 3) / 4)).symm]
  refine WX.callC (vs := [.ref m, .ref (m + 8), .int (nI (2 * ((ls.length + 3) / 4))), .int (nI (3 * ((ls.length + 3) / 4)))]) rfl rfl rfl (Nat.le_of_ble_eq_true rfl) (M_h.rcv hm) ?_
  refine m_stb8 hm M_h hL hls hLn (by omega) (by omega) ?_
  show WX _ _ _ 40 [(0, .ref m), (1, .ref (m + 8)), (2, .int (nI ((ls.length + 3) / 4)))] [.int (nI (stb L ls (2 * ((ls.length + 3) / 4)) (3 * ((ls.length + 3) / 4)))), .int (nI (6 + (stb L ls 0 ((ls.length + 3) / 4)) + (stb L ls ((ls.length + 3) / 4) (2 * ((ls.length + 3) / 4)))))] (n, s, h)
  refine WX.s1 (S' := [.int ((nI (6 + (stb L ls 0 ((ls.length + 3) / 4)) + (stb L ls ((ls.length + 3) / 4) (2 * ((ls.length + 3) / 4))))) + (nI (stb L ls (2 * ((ls.length + 3) / 4)) (3 * ((ls.length + 3) / 4)))))]) rfl rfl ?_
  rw [show ((nI (6 + (stb L ls 0 ((ls.length + 3) / 4)) + (stb L ls ((ls.length + 3) / 4) (2 * ((ls.length + 3) / 4))))) + (nI (stb L ls (2 * ((ls.length + 3) / 4)) (3 * ((ls.length + 3) / 4))))) = nI (6 + (stb L ls 0 ((ls.length + 3) / 4)) + (stb L ls ((ls.length + 3) / 4) (2 * ((ls.length + 3) / 4))) + (stb L ls (2 * ((ls.length + 3) / 4)) (3 * ((ls.length + 3) / 4)))) from nI_add (6 + (stb L ls 0 ((ls.length + 3) / 4)) + (stb L ls ((ls.length + 3) / 4) (2 * ((ls.length + 3) / 4)))) (stb L ls (2 * ((ls.length + 3) / 4)) (3 * ((ls.length + 3) / 4)))]
  refine WX.s1 rfl rfl ?_
  refine WX.s1 rfl rfl ?_
  refine WX.s1 rfl rfl ?_
  refine WX.s1 rfl rfl ?_
  refine WX.s1 (S' := [.int (3 * (nI ((ls.length + 3) / 4))), .ref (m + 8), .ref m, .int (nI (6 + (stb L ls 0 ((ls.length + 3) / 4)) + (stb L ls ((ls.length + 3) / 4) (2 * ((ls.length + 3) / 4))) + (stb L ls (2 * ((ls.length + 3) / 4)) (3 * ((ls.length + 3) / 4)))))]) rfl rfl ?_
  rw [show (3 * (nI ((ls.length + 3) / 4))) = nI (3 * ((ls.length + 3) / 4)) from (Int32.ofNat_mul 3 ((ls.length + 3) / 4)).symm]
  refine WX.s1 rfl rfl ?_
  refine WX.mgetK (x := (nI ls.length)) rfl hm M_h rfl K_I_33 ?_
  refine WX.callC (vs := [.ref m, .ref (m + 8), .int (nI (3 * ((ls.length + 3) / 4))), .int (nI ls.length)]) rfl rfl rfl (Nat.le_of_ble_eq_true rfl) (M_h.rcv hm) ?_
  refine m_stb8 hm M_h hL hls hLn (by omega) (by omega) ?_
  show WX _ _ _ 53 [(0, .ref m), (1, .ref (m + 8)), (2, .int (nI ((ls.length + 3) / 4)))] [.int (nI (stb L ls (3 * ((ls.length + 3) / 4)) ls.length)), .int (nI (6 + (stb L ls 0 ((ls.length + 3) / 4)) + (stb L ls ((ls.length + 3) / 4) (2 * ((ls.length + 3) / 4))) + (stb L ls (2 * ((ls.length + 3) / 4)) (3 * ((ls.length + 3) / 4)))))] (n, s, h)
  refine WX.s1 (S' := [.int ((nI (6 + (stb L ls 0 ((ls.length + 3) / 4)) + (stb L ls ((ls.length + 3) / 4) (2 * ((ls.length + 3) / 4))) + (stb L ls (2 * ((ls.length + 3) / 4)) (3 * ((ls.length + 3) / 4))))) + (nI (stb L ls (3 * ((ls.length + 3) / 4)) ls.length)))]) rfl rfl ?_
  rw [show ((nI (6 + (stb L ls 0 ((ls.length + 3) / 4)) + (stb L ls ((ls.length + 3) / 4) (2 * ((ls.length + 3) / 4))) + (stb L ls (2 * ((ls.length + 3) / 4)) (3 * ((ls.length + 3) / 4))))) + (nI (stb L ls (3 * ((ls.length + 3) / 4)) ls.length))) = nI (6 + (stb L ls 0 ((ls.length + 3) / 4)) + (stb L ls ((ls.length + 3) / 4) (2 * ((ls.length + 3) / 4))) + (stb L ls (2 * ((ls.length + 3) / 4)) (3 * ((ls.length + 3) / 4))) + (stb L ls (3 * ((ls.length + 3) / 4)) ls.length)) from nI_add (6 + (stb L ls 0 ((ls.length + 3) / 4)) + (stb L ls ((ls.length + 3) / 4) (2 * ((ls.length + 3) / 4))) + (stb L ls (2 * ((ls.length + 3) / 4)) (3 * ((ls.length + 3) / 4)))) (stb L ls (3 * ((ls.length + 3) / 4)) ls.length)]
  exact WX.ret1 rfl kk
set_option maxRecDepth 20000 in
theorem m_tob8 {d n s : Nat} {h : Nat → aE} {m : Nat} {I : Nat → Int32} {AR : Nat → Nat → Int32} {LN : Nat → Int64} {ls : List Nat} {L : Nat → Nat} {ds : Int32} (hm : m + 43 < n) (M_h : MAt h m I AR LN) (hL : LitM I AR ls) (hls : LsOk ls) (hLn : LnM AR 8 L) (K_I_33 : I 33 = (nI ls.length)) {Ψ : Option Value → aH → Prop} (kk : Ψ (some (.int (ds + nI (tob L ls)))) (n, s, h)) : WO (mM (d + 3)) 184 [.ref m, .ref (m + 8), .int ds] (n, s, h) Ψ := by
  refine WO.of (Nat.le_of_ble_eq_true rfl) ?_
  have FR_h : Fr h h (inM m) := Fr.rf
  have FI_I : Fi I I (fun f => f = 40) := Fi.rf
  have hlen := hls.2
  show WX (lk tX12_bytesTold) (mM (d + 2)) Ψ 0 [(0, .ref m), (1, .ref (m + 8)), (2, .int ds)] [] (n, s, h)
  refine WX.s1 rfl rfl ?_
  refine WX.s1 rfl rfl ?_
  refine WX.mgetK (x := (nI ls.length)) rfl hm M_h rfl K_I_33 ?_
  refine WX.s1 rfl rfl ?_
  refine WX.icmp rfl (fun c_8 => ?_) (fun c_8 => ?_)
  · skip
    have n_8 : 1024 ≤ ls.length := (nI_leI (a := 1024) (b := ls.length) (by omega) (by omega)).mp c_8
    refine WX.s1 rfl rfl ?_
    refine WX.s1 rfl rfl ?_
    refine WX.callC (vs := [.ref m, .ref (m + 8)]) rfl rfl rfl (Nat.le_of_ble_eq_true rfl) (M_h.rcv hm) ?_
    refine m_frb8 hm M_h hL hls hLn n_8 K_I_33 ?_
    show WX _ _ _ 29 [(0, .ref m), (1, .ref (m + 8)), (2, .int ds)] [.int (nI (frb L ls)), .int ds] (n, s, h)
    refine WX.s1 (S' := [.int (ds + (nI (frb L ls)))]) rfl rfl ?_
    rw [show tob L ls = frb L ls from if_neg (by omega)] at kk
    exact WX.ret1 rfl kk
  · skip
    have n_8 : ls.length < 1024 := Nat.lt_of_not_le (fun zz_ => c_8 ((nI_leI (a := 1024) (b := ls.length) (by omega) (by omega)).mpr zz_))
    refine WX.s1 rfl rfl ?_
    refine WX.s1 rfl rfl ?_
    refine WX.s1 rfl rfl ?_
    refine WX.s1 rfl rfl ?_
    refine WX.mgetK (x := (nI ls.length)) rfl hm M_h rfl K_I_33 ?_
    refine WX.callC (vs := [.ref m, .ref (m + 8), .int (nI 0), .int (nI ls.length)]) rfl rfl rfl (Nat.le_of_ble_eq_true rfl) (M_h.rcv hm) ?_
    refine m_stb8 hm M_h hL hls hLn (by omega) (by omega) ?_
    show WX _ _ _ 21 [(0, .ref m), (1, .ref (m + 8)), (2, .int ds)] [.int (nI (stb L ls 0 ls.length)), .int ds] (n, s, h)
    refine WX.s1 rfl rfl ?_
    refine WX.s1 (S' := [.int (ds + (nI (stb L ls 0 ls.length)))]) rfl rfl ?_
    rw [show tob L ls = stb L ls 0 ls.length from if_pos n_8] at kk
    exact WX.ret1 rfl kk
set_option maxRecDepth 20000 in
theorem m_stb37 {d n s : Nat} {h : Nat → aE} {m : Nat} {I : Nat → Int32} {AR : Nat → Nat → Int32} {LN : Nat → Int64} {ls : List Nat} {L : Nat → Nat} {f e : Nat} (hm : m + 43 < n) (M_h : MAt h m I AR LN) (hL : LitM I AR ls) (hls : LsOk ls) (hLn : LnM AR 37 L) (hfe : f ≤ e) (hel : e ≤ ls.length)  {Ψ : Option Value → aH → Prop} (kk : Ψ (some (.int (nI (stb L ls f e)))) (n, s, h)) : WO (mM (d + 1)) 182 [.ref m, .ref (m + 37), .int (nI f), .int (nI e)] (n, s, h) Ψ := by
  refine WO.of (Nat.le_of_ble_eq_true rfl) ?_
  have FR_h : Fr h h (inM m) := Fr.rf
  have FI_I : Fi I I (fun f => f = 40) := Fi.rf
  have hlen := hls.2
  show WX (lk tX12_streamBytes) (mM d) Ψ 0 [(0, .ref m), (1, .ref (m + 37)), (2, .int (nI f)), (3, .int (nI e))] [] (n, s, h)
  refine WX.s1 rfl rfl ?_
  refine WX.s1 (L' := [(0, .ref m), (1, .ref (m + 37)), (2, .int (nI f)), (3, .int (nI e)), (4, .int 1)]) rfl rfl ?_
  refine WX.s1 rfl rfl ?_
  refine WX.s1 (L' := [(0, .ref m), (1, .ref (m + 37)), (2, .int (nI f)), (3, .int (nI e)), (4, .int 1), (5, .int (nI f))]) rfl rfl ?_
  have lp : ∀ (t i : Nat), f + i + t = e → WX (lk tX12_streamBytes) (mM d) Ψ 6 [(0, .ref m), (1, .ref (m + 37)), (2, .int (nI f)), (3, .int (nI e)), (4, .int (nI (1 + (sumN (fun i => L (ls.getD (f + i) 0)) i)))), (5, .int (nI (f + i)))] [] (n, s, h) := by
    intro t
    induction t with
    | zero =>
      intro i hi
      have hb := sum18 (fun s hs => (hLn s hs).2) hls.1 (f := f) i (by omega)
      obtain rfl : i = e - f := by omega
      refine WX.s1 rfl rfl ?_
      refine WX.s1 rfl rfl ?_
      refine WX.icmp rfl (fun c_9 => ?_) (fun c_9 => absurd ((nI_leI (a := e) (b := f + (e - f)) (by omega) (by omega)).mpr (by omega)) c_9)
      clear c_9
      refine WX.s1 rfl rfl ?_
      refine WX.s1 rfl rfl ?_
      refine WX.s1 (S' := [.int ((nI (1 + (sumN (fun i => L (ls.getD (f + i) 0)) (e - f)))) + 7)]) rfl rfl ?_
      rw [show ((nI (1 + (sumN (fun i => L (ls.getD (f + i) 0)) (e - f)))) + 7) = nI (1 + (sumN (fun i => L (ls.getD (f + i) 0)) (e - f)) + 7) from nI_add (1 + (sumN (fun i => L (ls.getD (f + i) 0)) (e - f))) 7]
      refine WX.s1 rfl rfl ?_
      refine WX.div rfl (by decide) ?_
      rw [show nI (1 + (sumN (fun i => L (ls.getD (f + i) 0)) (e - f)) + 7) / 8 = nI ((1 + (sumN (fun i => L (ls.getD (f + i) 0)) (e - f)) + 7) / 8) from pk_div (by omega) (by decide) (by decide), show (1 + (sumN (fun i => L (ls.getD (f + i) 0)) (e - f)) + 7) / 8 = stb L ls f e by unfold stb; omega]
      exact WX.ret1 rfl kk
    | succ t ih =>
      intro i hi
      have hb := sum18 (fun s hs => (hLn s hs).2) hls.1 (f := f) i (by omega)
      have y1 := hL.2 (f + i) (by omega)
      have y2 := hls.1 _ (getD_mem (show f + i < ls.length by omega))
      obtain ⟨l1, l2⟩ := hLn _ y2
      have hss : 1 + (sumN (fun i => L (ls.getD (f + i) 0)) (i + 1)) = 1 + (sumN (fun i => L (ls.getD (f + i) 0)) i) + L (ls.getD (f + i) 0) := (Nat.add_assoc 1 _ _).symm
      refine WX.s1 rfl rfl ?_
      refine WX.s1 rfl rfl ?_
      refine WX.icmp rfl (fun c_9 => absurd c_9 (fun zz_ => absurd ((nI_leI (a := e) (b := f + i) (by omega) (by omega)).mp zz_) (Nat.not_le.mpr (by omega)))) (fun c_9 => ?_)
      clear c_9
      refine WX.s1 rfl rfl ?_
      refine WX.s1 rfl rfl ?_
      refine WX.s1 rfl rfl ?_
      refine WX.mget rfl hm M_h rfl ?_
      refine WX.s1 rfl rfl ?_
      refine WX.mald (c := 20) rfl hm M_h (by decide) (by decide) (by decide) (by decide) (vp_in_nI (N := 8001) (by omega) (by decide)) ?_
      rw [nI_clamp (by omega), y1]
      refine WX.mald (c := 37) rfl hm M_h (by decide) (by decide) (by decide) (by decide) (vp_in_nI (N := 256) (by omega) (by decide)) ?_
      rw [nI_clamp (by omega), l1]
      refine WX.s1 (S' := [.int ((nI (1 + (sumN (fun i => L (ls.getD (f + i) 0)) i))) + (nI (L (ls.getD (f + i) 0))))]) rfl rfl ?_
      rw [show ((nI (1 + (sumN (fun i => L (ls.getD (f + i) 0)) i))) + (nI (L (ls.getD (f + i) 0)))) = nI (1 + (sumN (fun i => L (ls.getD (f + i) 0)) i) + (L (ls.getD (f + i) 0))) from nI_add (1 + (sumN (fun i => L (ls.getD (f + i) 0)) i)) (L (ls.getD (f + i) 0))]
      refine WX.s1 (L' := [(0, .ref m), (1, .ref (m + 37)), (2, .int (nI f)), (3, .int (nI e)), (4, .int (nI (1 + (sumN (fun i => L (ls.getD (f + i) 0)) i) + (L (ls.getD (f + i) 0))))), (5, .int (nI (f + i)))]) rfl rfl ?_
      rw [← hss]
      refine WX.s1 (L' := [(0, .ref m), (1, .ref (m + 37)), (2, .int (nI f)), (3, .int (nI e)), (4, .int (nI (1 + (sumN (fun i => L (ls.getD (f + i) 0)) (i + 1))))), (5, .int ((nI (f + i)) + 1))]) rfl rfl ?_
      rw [show ((nI (f + i)) + 1) = nI (f + i + 1) from nI_add (f + i) 1]
      refine WX.s1 rfl rfl ?_
      exact ih (i + 1) (by omega)
  exact lp (e - f) 0 (by omega)
set_option maxRecDepth 20000 in
theorem m_frb37 {d n s : Nat} {h : Nat → aE} {m : Nat} {I : Nat → Int32} {AR : Nat → Nat → Int32} {LN : Nat → Int64} {ls : List Nat} {L : Nat → Nat} (hm : m + 43 < n) (M_h : MAt h m I AR LN) (hL : LitM I AR ls) (hls : LsOk ls) (hLn : LnM AR 37 L) (h1024 : 1024 ≤ ls.length) (K_I_33 : I 33 = (nI ls.length)) {Ψ : Option Value → aH → Prop} (kk : Ψ (some (.int (nI (frb L ls)))) (n, s, h)) : WO (mM (d + 2)) 183 [.ref m, .ref (m + 37)] (n, s, h) Ψ := by
  refine WO.of (Nat.le_of_ble_eq_true rfl) ?_
  have FR_h : Fr h h (inM m) := Fr.rf
  have FI_I : Fi I I (fun f => f = 40) := Fi.rf
  have hlen := hls.2
  show WX (lk tX12_fourBytes) (mM (d + 1)) Ψ 0 [(0, .ref m), (1, .ref (m + 37))] [] (n, s, h)
  refine WX.s1 rfl rfl ?_
  refine WX.mgetK (x := (nI ls.length)) rfl hm M_h rfl K_I_33 ?_
  refine WX.s1 rfl rfl ?_
  refine WX.s1 (S' := [.int ((nI ls.length) + 3)]) rfl rfl ?_
  rw [show ((nI ls.length) + 3) = nI (ls.length + 3) from nI_add ls.length 3]
  refine WX.s1 rfl rfl ?_
  refine WX.div rfl (by decide) ?_
  rw [show nI (ls.length + 3) / 4 = nI ((ls.length + 3) / 4) from pk_div (by omega) (by decide) (by decide)]
  refine WX.s1 (L' := [(0, .ref m), (1, .ref (m + 37)), (2, .int (nI ((ls.length + 3) / 4)))]) rfl rfl ?_
  refine WX.s1 rfl rfl ?_
  refine WX.s1 rfl rfl ?_
  refine WX.s1 rfl rfl ?_
  refine WX.s1 rfl rfl ?_
  refine WX.s1 rfl rfl ?_
  refine WX.callC (vs := [.ref m, .ref (m + 37), .int (nI 0), .int (nI ((ls.length + 3) / 4))]) rfl rfl rfl (Nat.le_of_ble_eq_true rfl) (M_h.rcv hm) ?_
  refine m_stb37 hm M_h hL hls hLn (by omega) (by omega) ?_
  show WX _ _ _ 18 [(0, .ref m), (1, .ref (m + 37)), (2, .int (nI ((ls.length + 3) / 4)))] [.int (nI (stb L ls 0 ((ls.length + 3) / 4))), .int 6] (n, s, h)
  refine WX.s1 (S' := [.int (6 + (nI (stb L ls 0 ((ls.length + 3) / 4))))]) rfl rfl ?_
  rw [show (6 + (nI (stb L ls 0 ((ls.length + 3) / 4)))) = nI (6 + (stb L ls 0 ((ls.length + 3) / 4))) from nI_add 6 (stb L ls 0 ((ls.length + 3) / 4))]
  refine WX.s1 rfl rfl ?_
  refine WX.s1 rfl rfl ?_
  refine WX.s1 rfl rfl ?_
  refine WX.s1 rfl rfl ?_
  refine WX.s1 rfl rfl ?_
  refine WX.s1 (S' := [.int (2 * (nI ((ls.length + 3) / 4))), .int (nI ((ls.length + 3) / 4)), .ref (m + 37), .ref m, .int (nI (6 + (stb L ls 0 ((ls.length + 3) / 4))))]) rfl rfl ?_
  rw [show (2 * (nI ((ls.length + 3) / 4))) = nI (2 * ((ls.length + 3) / 4)) from (Int32.ofNat_mul 2 ((ls.length + 3) / 4)).symm]
  refine WX.callC (vs := [.ref m, .ref (m + 37), .int (nI ((ls.length + 3) / 4)), .int (nI (2 * ((ls.length + 3) / 4)))]) rfl rfl rfl (Nat.le_of_ble_eq_true rfl) (M_h.rcv hm) ?_
  refine m_stb37 hm M_h hL hls hLn (by omega) (by omega) ?_
  show WX _ _ _ 28 [(0, .ref m), (1, .ref (m + 37)), (2, .int (nI ((ls.length + 3) / 4)))] [.int (nI (stb L ls ((ls.length + 3) / 4) (2 * ((ls.length + 3) / 4)))), .int (nI (6 + (stb L ls 0 ((ls.length + 3) / 4))))] (n, s, h)
  refine WX.s1 (S' := [.int ((nI (6 + (stb L ls 0 ((ls.length + 3) / 4)))) + (nI (stb L ls ((ls.length + 3) / 4) (2 * ((ls.length + 3) / 4)))))]) rfl rfl ?_
  rw [show ((nI (6 + (stb L ls 0 ((ls.length + 3) / 4)))) + (nI (stb L ls ((ls.length + 3) / 4) (2 * ((ls.length + 3) / 4))))) = nI (6 + (stb L ls 0 ((ls.length + 3) / 4)) + (stb L ls ((ls.length + 3) / 4) (2 * ((ls.length + 3) / 4)))) from nI_add (6 + (stb L ls 0 ((ls.length + 3) / 4))) (stb L ls ((ls.length + 3) / 4) (2 * ((ls.length + 3) / 4)))]
  refine WX.s1 rfl rfl ?_
  refine WX.s1 rfl rfl ?_
  refine WX.s1 rfl rfl ?_
  refine WX.s1 rfl rfl ?_
  refine WX.s1 (S' := [.int (2 * (nI ((ls.length + 3) / 4))), .ref (m + 37), .ref m, .int (nI (6 + (stb L ls 0 ((ls.length + 3) / 4)) + (stb L ls ((ls.length + 3) / 4) (2 * ((ls.length + 3) / 4)))))]) rfl rfl ?_
  rw [show (2 * (nI ((ls.length + 3) / 4))) = nI (2 * ((ls.length + 3) / 4)) from (Int32.ofNat_mul 2 ((ls.length + 3) / 4)).symm]
  refine WX.s1 rfl rfl ?_
  refine WX.s1 rfl rfl ?_
  refine WX.s1 (S' := [.int (3 * (nI ((ls.length + 3) / 4))), .int (nI (2 * ((ls.length + 3) / 4))), .ref (m + 37), .ref m, .int (nI (6 + (stb L ls 0 ((ls.length + 3) / 4)) + (stb L ls ((ls.length + 3) / 4) (2 * ((ls.length + 3) / 4)))))]) rfl rfl ?_
  rw [show (3 * (nI ((ls.length + 3) / 4))) = nI (3 * ((ls.length + 3) / 4)) from (Int32.ofNat_mul 3 ((ls.length + 3) / 4)).symm]
  refine WX.callC (vs := [.ref m, .ref (m + 37), .int (nI (2 * ((ls.length + 3) / 4))), .int (nI (3 * ((ls.length + 3) / 4)))]) rfl rfl rfl (Nat.le_of_ble_eq_true rfl) (M_h.rcv hm) ?_
  refine m_stb37 hm M_h hL hls hLn (by omega) (by omega) ?_
  show WX _ _ _ 40 [(0, .ref m), (1, .ref (m + 37)), (2, .int (nI ((ls.length + 3) / 4)))] [.int (nI (stb L ls (2 * ((ls.length + 3) / 4)) (3 * ((ls.length + 3) / 4)))), .int (nI (6 + (stb L ls 0 ((ls.length + 3) / 4)) + (stb L ls ((ls.length + 3) / 4) (2 * ((ls.length + 3) / 4)))))] (n, s, h)
  refine WX.s1 (S' := [.int ((nI (6 + (stb L ls 0 ((ls.length + 3) / 4)) + (stb L ls ((ls.length + 3) / 4) (2 * ((ls.length + 3) / 4))))) + (nI (stb L ls (2 * ((ls.length + 3) / 4)) (3 * ((ls.length + 3) / 4)))))]) rfl rfl ?_
  rw [show ((nI (6 + (stb L ls 0 ((ls.length + 3) / 4)) + (stb L ls ((ls.length + 3) / 4) (2 * ((ls.length + 3) / 4))))) + (nI (stb L ls (2 * ((ls.length + 3) / 4)) (3 * ((ls.length + 3) / 4))))) = nI (6 + (stb L ls 0 ((ls.length + 3) / 4)) + (stb L ls ((ls.length + 3) / 4) (2 * ((ls.length + 3) / 4))) + (stb L ls (2 * ((ls.length + 3) / 4)) (3 * ((ls.length + 3) / 4)))) from nI_add (6 + (stb L ls 0 ((ls.length + 3) / 4)) + (stb L ls ((ls.length + 3) / 4) (2 * ((ls.length + 3) / 4)))) (stb L ls (2 * ((ls.length + 3) / 4)) (3 * ((ls.length + 3) / 4)))]
  refine WX.s1 rfl rfl ?_
  refine WX.s1 rfl rfl ?_
  refine WX.s1 rfl rfl ?_
  refine WX.s1 rfl rfl ?_
  refine WX.s1 (S' := [.int (3 * (nI ((ls.length + 3) / 4))), .ref (m + 37), .ref m, .int (nI (6 + (stb L ls 0 ((ls.length + 3) / 4)) + (stb L ls ((ls.length + 3) / 4) (2 * ((ls.length + 3) / 4))) + (stb L ls (2 * ((ls.length + 3) / 4)) (3 * ((ls.length + 3) / 4)))))]) rfl rfl ?_
  rw [show (3 * (nI ((ls.length + 3) / 4))) = nI (3 * ((ls.length + 3) / 4)) from (Int32.ofNat_mul 3 ((ls.length + 3) / 4)).symm]
  refine WX.s1 rfl rfl ?_
  refine WX.mgetK (x := (nI ls.length)) rfl hm M_h rfl K_I_33 ?_
  refine WX.callC (vs := [.ref m, .ref (m + 37), .int (nI (3 * ((ls.length + 3) / 4))), .int (nI ls.length)]) rfl rfl rfl (Nat.le_of_ble_eq_true rfl) (M_h.rcv hm) ?_
  refine m_stb37 hm M_h hL hls hLn (by omega) (by omega) ?_
  show WX _ _ _ 53 [(0, .ref m), (1, .ref (m + 37)), (2, .int (nI ((ls.length + 3) / 4)))] [.int (nI (stb L ls (3 * ((ls.length + 3) / 4)) ls.length)), .int (nI (6 + (stb L ls 0 ((ls.length + 3) / 4)) + (stb L ls ((ls.length + 3) / 4) (2 * ((ls.length + 3) / 4))) + (stb L ls (2 * ((ls.length + 3) / 4)) (3 * ((ls.length + 3) / 4)))))] (n, s, h)
  refine WX.s1 (S' := [.int ((nI (6 + (stb L ls 0 ((ls.length + 3) / 4)) + (stb L ls ((ls.length + 3) / 4) (2 * ((ls.length + 3) / 4))) + (stb L ls (2 * ((ls.length + 3) / 4)) (3 * ((ls.length + 3) / 4))))) + (nI (stb L ls (3 * ((ls.length + 3) / 4)) ls.length)))]) rfl rfl ?_
  rw [show ((nI (6 + (stb L ls 0 ((ls.length + 3) / 4)) + (stb L ls ((ls.length + 3) / 4) (2 * ((ls.length + 3) / 4))) + (stb L ls (2 * ((ls.length + 3) / 4)) (3 * ((ls.length + 3) / 4))))) + (nI (stb L ls (3 * ((ls.length + 3) / 4)) ls.length))) = nI (6 + (stb L ls 0 ((ls.length + 3) / 4)) + (stb L ls ((ls.length + 3) / 4) (2 * ((ls.length + 3) / 4))) + (stb L ls (2 * ((ls.length + 3) / 4)) (3 * ((ls.length + 3) / 4))) + (stb L ls (3 * ((ls.length + 3) / 4)) ls.length)) from nI_add (6 + (stb L ls 0 ((ls.length + 3) / 4)) + (stb L ls ((ls.length + 3) / 4) (2 * ((ls.length + 3) / 4))) + (stb L ls (2 * ((ls.length + 3) / 4)) (3 * ((ls.length + 3) / 4)))) (stb L ls (3 * ((ls.length + 3) / 4)) ls.length)]
  exact WX.ret1 rfl kk
set_option maxRecDepth 20000 in
theorem m_tob37 {d n s : Nat} {h : Nat → aE} {m : Nat} {I : Nat → Int32} {AR : Nat → Nat → Int32} {LN : Nat → Int64} {ls : List Nat} {L : Nat → Nat} {ds : Int32} (hm : m + 43 < n) (M_h : MAt h m I AR LN) (hL : LitM I AR ls) (hls : LsOk ls) (hLn : LnM AR 37 L) (K_I_33 : I 33 = (nI ls.length)) {Ψ : Option Value → aH → Prop} (kk : Ψ (some (.int (ds + nI (tob L ls)))) (n, s, h)) : WO (mM (d + 3)) 184 [.ref m, .ref (m + 37), .int ds] (n, s, h) Ψ := by
  refine WO.of (Nat.le_of_ble_eq_true rfl) ?_
  have FR_h : Fr h h (inM m) := Fr.rf
  have FI_I : Fi I I (fun f => f = 40) := Fi.rf
  have hlen := hls.2
  show WX (lk tX12_bytesTold) (mM (d + 2)) Ψ 0 [(0, .ref m), (1, .ref (m + 37)), (2, .int ds)] [] (n, s, h)
  refine WX.s1 rfl rfl ?_
  refine WX.s1 rfl rfl ?_
  refine WX.mgetK (x := (nI ls.length)) rfl hm M_h rfl K_I_33 ?_
  refine WX.s1 rfl rfl ?_
  refine WX.icmp rfl (fun c_8 => ?_) (fun c_8 => ?_)
  · skip
    have n_8 : 1024 ≤ ls.length := (nI_leI (a := 1024) (b := ls.length) (by omega) (by omega)).mp c_8
    refine WX.s1 rfl rfl ?_
    refine WX.s1 rfl rfl ?_
    refine WX.callC (vs := [.ref m, .ref (m + 37)]) rfl rfl rfl (Nat.le_of_ble_eq_true rfl) (M_h.rcv hm) ?_
    refine m_frb37 hm M_h hL hls hLn n_8 K_I_33 ?_
    show WX _ _ _ 29 [(0, .ref m), (1, .ref (m + 37)), (2, .int ds)] [.int (nI (frb L ls)), .int ds] (n, s, h)
    refine WX.s1 (S' := [.int (ds + (nI (frb L ls)))]) rfl rfl ?_
    rw [show tob L ls = frb L ls from if_neg (by omega)] at kk
    exact WX.ret1 rfl kk
  · skip
    have n_8 : ls.length < 1024 := Nat.lt_of_not_le (fun zz_ => c_8 ((nI_leI (a := 1024) (b := ls.length) (by omega) (by omega)).mpr zz_))
    refine WX.s1 rfl rfl ?_
    refine WX.s1 rfl rfl ?_
    refine WX.s1 rfl rfl ?_
    refine WX.s1 rfl rfl ?_
    refine WX.mgetK (x := (nI ls.length)) rfl hm M_h rfl K_I_33 ?_
    refine WX.callC (vs := [.ref m, .ref (m + 37), .int (nI 0), .int (nI ls.length)]) rfl rfl rfl (Nat.le_of_ble_eq_true rfl) (M_h.rcv hm) ?_
    refine m_stb37 hm M_h hL hls hLn (by omega) (by omega) ?_
    show WX _ _ _ 21 [(0, .ref m), (1, .ref (m + 37)), (2, .int ds)] [.int (nI (stb L ls 0 ls.length)), .int ds] (n, s, h)
    refine WX.s1 rfl rfl ?_
    refine WX.s1 (S' := [.int (ds + (nI (stb L ls 0 ls.length)))]) rfl rfl ?_
    rw [show tob L ls = stb L ls 0 ls.length from if_pos n_8] at kk
    exact WX.ret1 rfl kk
def wdI (x : Int32) : Int32 := if x < 2 then 10 else if x = 2 then 14 else 18
def hbI (x : Int32) : Int32 := if x < 2 then 3 else if x = 2 then 4 else 5
theorem m_width {d n s : Nat} {h : Nat → aE} {x : Int32} {Ψ : Option Value → aH → Prop} (kk : Ψ (some (.int (wdI x))) (n, s, h)) : WO (mM (d + 1)) 185 [.int x] (n, s, h) Ψ := by
  refine WO.of (Nat.le_of_ble_eq_true rfl) ?_
  show WX (lk tX12_width) (mM d) Ψ 0 [(0, .int x)] [] (n, s, h)
  refine WX.s1 rfl rfl ?_
  refine WX.s1 rfl rfl ?_
  refine WX.icmp rfl (fun c_2 => ?_) (fun c_2 => ?_)
  · skip
    refine WX.s1 rfl rfl ?_
    refine WX.s1 rfl rfl ?_
    refine WX.icmp rfl (fun c_12 => ?_) (fun c_12 => ?_)
    · skip
      refine WX.s1 rfl rfl ?_
      rw [show wdI x = 18 from by unfold wdI; rw [if_neg (Int32.not_lt.mpr c_2), if_neg c_12]] at kk
      exact WX.ret1 rfl kk
    · skip
      refine WX.s1 rfl rfl ?_
      refine WX.s1 rfl rfl ?_
      rw [show wdI x = 14 from by unfold wdI; rw [if_neg (Int32.not_lt.mpr c_2), if_pos (Classical.not_not.mp c_12)]] at kk
      exact WX.ret1 rfl kk
  · skip
    refine WX.s1 rfl rfl ?_
    refine WX.s1 rfl rfl ?_
    rw [show wdI x = 10 from if_pos (by simpa [Int32.not_le] using c_2)] at kk
    exact WX.ret1 rfl kk
theorem m_headB {d n s : Nat} {h : Nat → aE} {x : Int32} {Ψ : Option Value → aH → Prop} (kk : Ψ (some (.int (hbI x))) (n, s, h)) : WO (mM (d + 1)) 186 [.int x] (n, s, h) Ψ := by
  refine WO.of (Nat.le_of_ble_eq_true rfl) ?_
  show WX (lk tX12_headBytes) (mM d) Ψ 0 [(0, .int x)] [] (n, s, h)
  refine WX.s1 rfl rfl ?_
  refine WX.s1 rfl rfl ?_
  refine WX.icmp rfl (fun c_2 => ?_) (fun c_2 => ?_)
  · skip
    refine WX.s1 rfl rfl ?_
    refine WX.s1 rfl rfl ?_
    refine WX.icmp rfl (fun c_11 => ?_) (fun c_11 => ?_)
    · skip
      refine WX.s1 rfl rfl ?_
      rw [show hbI x = 5 from by unfold hbI; rw [if_neg (Int32.not_lt.mpr c_2), if_neg c_11]] at kk
      exact WX.ret1 rfl kk
    · skip
      refine WX.s1 rfl rfl ?_
      refine WX.s1 rfl rfl ?_
      rw [show hbI x = 4 from by unfold hbI; rw [if_neg (Int32.not_lt.mpr c_2), if_pos (Classical.not_not.mp c_11)]] at kk
      exact WX.ret1 rfl kk
  · skip
    refine WX.s1 rfl rfl ?_
    refine WX.s1 rfl rfl ?_
    rw [show hbI x = 3 from if_pos (by simpa [Int32.not_le] using c_2)] at kk
    exact WX.ret1 rfl kk
set_option maxRecDepth 20000 in
theorem m_headOf {d n s : Nat} {h : Nat → aE} {m : Nat} {I : Nat → Int32} {AR : Nat → Nat → Int32} {LN : Nat → Int64} {ls : List Nat} {b : Nat} (hm : m + 43 < n) (M_h : MAt h m I AR LN) (hlen : ls.length ≤ 8000) (hb : b < 16384) (K_I_33 : I 33 = (nI ls.length)) {Ψ : Option Value → aH → Prop} (kk : Ψ (some (.int (if ls.length < 1024 then (if b < 1024 then 0 else -1) else 2))) (n, s, h)) : WO (mM (d + 2)) 187 [.ref m, .int (nI b)] (n, s, h) Ψ := by
  refine WO.of (Nat.le_of_ble_eq_true rfl) ?_
  have FR_h : Fr h h (inM m) := Fr.rf
  have FI_I : Fi I I (fun f => f = 40) := Fi.rf
  show WX (lk tX12_headOf) (mM (d + 1)) Ψ 0 [(0, .ref m), (1, .int (nI b))] [] (n, s, h)
  refine WX.s1 rfl rfl ?_
  refine WX.mgetK (x := (nI ls.length)) rfl hm M_h rfl K_I_33 ?_
  refine WX.s1 rfl rfl ?_
  refine WX.icmp rfl (fun c_7 => ?_) (fun c_7 => ?_)
  · skip
    have n_7 : 1024 ≤ ls.length := (nI_leI (a := 1024) (b := ls.length) (by omega) (by omega)).mp c_7
    refine WX.s1 rfl rfl ?_
    refine WX.s1 (L' := [(0, .ref m), (1, .int (nI b)), (2, .int 1)]) rfl rfl ?_
    refine WX.s1 rfl rfl ?_
    refine WX.s1 rfl rfl ?_
    refine WX.icmp rfl (fun c_27 => absurd c_27 (by decide)) (fun c_27 => ?_)
    clear c_27
    refine WX.s1 rfl rfl ?_
    refine WX.mgetK (x := (nI ls.length)) rfl hm M_h rfl K_I_33 ?_
    refine WX.s1 rfl rfl ?_
    refine WX.s1 rfl rfl ?_
    refine WX.callC (vs := [.int 1]) rfl rfl rfl (Nat.le_of_ble_eq_true rfl) rfl ?_
    refine m_width ?_
    rw [show wdI 1 = 10 by decide]
    show WX _ _ _ 39 [(0, .ref m), (1, .int (nI b)), (2, .int 1)] [.int (10 : Int32), .int 1, .int (nI ls.length)] (n, s, h)
    refine WX.s1 (S' := [.int (1 <<< ((10 : Int32) &&& 31)), .int (nI ls.length)]) rfl rfl ?_
    rw [show (1 : Int32) <<< ((10 : Int32) &&& 31) = 1024 by decide]
    refine WX.icmp rfl (fun c_40 => ?_) (fun c_40 => absurd ((nI_leI (a := 1024) (b := ls.length) (by omega) (by omega)).mpr (by omega)) c_40)
    clear c_40
    refine WX.s1 (L' := [(0, .ref m), (1, .int (nI b)), (2, .int (1 + 1))]) rfl rfl ?_
    rw [show ((1 : Int32) + 1) = 2 from rfl]
    refine WX.s1 rfl rfl ?_
    refine WX.s1 rfl rfl ?_
    refine WX.s1 rfl rfl ?_
    refine WX.icmp rfl (fun c_27 => absurd c_27 (by decide)) (fun c_27 => ?_)
    clear c_27
    refine WX.s1 rfl rfl ?_
    refine WX.mgetK (x := (nI ls.length)) rfl hm M_h rfl K_I_33 ?_
    refine WX.s1 rfl rfl ?_
    refine WX.s1 rfl rfl ?_
    refine WX.callC (vs := [.int 2]) rfl rfl rfl (Nat.le_of_ble_eq_true rfl) rfl ?_
    refine m_width ?_
    rw [show wdI 2 = 14 by decide]
    show WX _ _ _ 39 [(0, .ref m), (1, .int (nI b)), (2, .int 2)] [.int (14 : Int32), .int 1, .int (nI ls.length)] (n, s, h)
    refine WX.s1 (S' := [.int (1 <<< ((14 : Int32) &&& 31)), .int (nI ls.length)]) rfl rfl ?_
    rw [show (1 : Int32) <<< ((14 : Int32) &&& 31) = 16384 by decide]
    refine WX.icmp rfl (fun c_40 => absurd c_40 (fun zz_ => absurd ((nI_leI (a := 16384) (b := ls.length) (by omega) (by omega)).mp zz_) (Nat.not_le.mpr (by omega)))) (fun c_40 => ?_)
    clear c_40
    refine WX.s1 rfl rfl ?_
    refine WX.s1 rfl rfl ?_
    refine WX.s1 rfl rfl ?_
    refine WX.callC (vs := [.int 2]) rfl rfl rfl (Nat.le_of_ble_eq_true rfl) rfl ?_
    refine m_width ?_
    rw [show wdI 2 = 14 by decide]
    show WX _ _ _ 49 [(0, .ref m), (1, .int (nI b)), (2, .int 2)] [.int (14 : Int32), .int 1, .int (nI b)] (n, s, h)
    refine WX.s1 (S' := [.int (1 <<< ((14 : Int32) &&& 31)), .int (nI b)]) rfl rfl ?_
    rw [show (1 : Int32) <<< ((14 : Int32) &&& 31) = 16384 by decide]
    refine WX.icmp rfl (fun c_50 => absurd c_50 (fun zz_ => absurd ((nI_leI (a := 16384) (b := b) (by omega) (by omega)).mp zz_) (Nat.not_le.mpr (by omega)))) (fun c_50 => ?_)
    clear c_50
    refine WX.s1 rfl rfl ?_
    rw [if_neg (by omega)] at kk
    exact WX.ret1 rfl kk
  · skip
    have n_7 : ls.length < 1024 := Nat.lt_of_not_le (fun zz_ => c_7 ((nI_leI (a := 1024) (b := ls.length) (by omega) (by omega)).mpr zz_))
    refine WX.s1 rfl rfl ?_
    refine WX.s1 rfl rfl ?_
    refine WX.icmp rfl (fun c_14 => ?_) (fun c_14 => ?_)
    · skip
      have n_14 : 1024 ≤ b := (nI_leI (a := 1024) (b := b) (by omega) (by omega)).mp c_14
      refine WX.s1 rfl rfl ?_
      rw [if_pos n_7, if_neg (by omega)] at kk
      exact WX.ret1 rfl kk
    · skip
      have n_14 : b < 1024 := Nat.lt_of_not_le (fun zz_ => c_14 ((nI_leI (a := 1024) (b := b) (by omega) (by omega)).mpr zz_))
      refine WX.s1 rfl rfl ?_
      refine WX.s1 rfl rfl ?_
      rw [if_pos n_7, if_pos n_14] at kk
      exact WX.ret1 rfl kk
set_option maxRecDepth 20000 in
theorem m_headAny {d n s : Nat} {h : Nat → aE} {m : Nat} {I : Nat → Int32} {AR : Nat → Nat → Int32} {LN : Nat → Int64} {ls : List Nat} {b : Int32} (hm : m + 43 < n) (M_h : MAt h m I AR LN) (hlen : ls.length ≤ 8000) (K_I_33 : I 33 = (nI ls.length)) {Ψ : Option Value → aH → Prop} (kk : ∀ r, Ψ (some (.int r)) (n, s, h)) : WO (mM (d + 2)) 187 [.ref m, .int b] (n, s, h) Ψ := by
  refine WO.of (Nat.le_of_ble_eq_true rfl) ?_
  have FR_h : Fr h h (inM m) := Fr.rf
  have FI_I : Fi I I (fun f => f = 40) := Fi.rf
  show WX (lk tX12_headOf) (mM (d + 1)) Ψ 0 [(0, .ref m), (1, .int b)] [] (n, s, h)
  refine WX.s1 rfl rfl ?_
  refine WX.mgetK (x := (nI ls.length)) rfl hm M_h rfl K_I_33 ?_
  refine WX.s1 rfl rfl ?_
  refine WX.icmp rfl (fun c_7 => ?_) (fun c_7 => ?_)
  · skip
    have n_7 : 1024 ≤ ls.length := (nI_leI (a := 1024) (b := ls.length) (by omega) (by omega)).mp c_7
    refine WX.s1 rfl rfl ?_
    refine WX.s1 (L' := [(0, .ref m), (1, .int b), (2, .int 1)]) rfl rfl ?_
    refine WX.s1 rfl rfl ?_
    refine WX.s1 rfl rfl ?_
    refine WX.icmp rfl (fun c_27 => absurd c_27 (by decide)) (fun c_27 => ?_)
    clear c_27
    refine WX.s1 rfl rfl ?_
    refine WX.mgetK (x := (nI ls.length)) rfl hm M_h rfl K_I_33 ?_
    refine WX.s1 rfl rfl ?_
    refine WX.s1 rfl rfl ?_
    refine WX.callC (vs := [.int 1]) rfl rfl rfl (Nat.le_of_ble_eq_true rfl) rfl ?_
    refine m_width ?_
    rw [show wdI 1 = 10 by decide]
    show WX _ _ _ 39 [(0, .ref m), (1, .int b), (2, .int 1)] [.int (10 : Int32), .int 1, .int (nI ls.length)] (n, s, h)
    refine WX.s1 (S' := [.int (1 <<< ((10 : Int32) &&& 31)), .int (nI ls.length)]) rfl rfl ?_
    rw [show (1 : Int32) <<< ((10 : Int32) &&& 31) = 1024 by decide]
    refine WX.icmp rfl (fun c_40 => ?_) (fun c_40 => ?_)
    · skip
      have n_40 : 1024 ≤ ls.length := (nI_leI (a := 1024) (b := ls.length) (by omega) (by omega)).mp c_40
      refine WX.s1 (L' := [(0, .ref m), (1, .int b), (2, .int (1 + 1))]) rfl rfl ?_
      rw [show ((1 : Int32) + 1) = 2 from rfl]
      refine WX.s1 rfl rfl ?_
      refine WX.s1 rfl rfl ?_
      refine WX.s1 rfl rfl ?_
      refine WX.icmp rfl (fun c_27 => absurd c_27 (by decide)) (fun c_27 => ?_)
      clear c_27
      refine WX.s1 rfl rfl ?_
      refine WX.mgetK (x := (nI ls.length)) rfl hm M_h rfl K_I_33 ?_
      refine WX.s1 rfl rfl ?_
      refine WX.s1 rfl rfl ?_
      refine WX.callC (vs := [.int 2]) rfl rfl rfl (Nat.le_of_ble_eq_true rfl) rfl ?_
      refine m_width ?_
      rw [show wdI 2 = 14 by decide]
      show WX _ _ _ 39 [(0, .ref m), (1, .int b), (2, .int 2)] [.int (14 : Int32), .int 1, .int (nI ls.length)] (n, s, h)
      refine WX.s1 (S' := [.int (1 <<< ((14 : Int32) &&& 31)), .int (nI ls.length)]) rfl rfl ?_
      rw [show (1 : Int32) <<< ((14 : Int32) &&& 31) = 16384 by decide]
      refine WX.icmp rfl (fun c_40 => ?_) (fun c_40 => ?_)
      · skip
        have n_40 : 16384 ≤ ls.length := (nI_leI (a := 16384) (b := ls.length) (by omega) (by omega)).mp c_40
        refine WX.s1 (L' := [(0, .ref m), (1, .int b), (2, .int (2 + 1))]) rfl rfl ?_
        rw [show ((2 : Int32) + 1) = 3 from rfl]
        refine WX.s1 rfl rfl ?_
        refine WX.s1 rfl rfl ?_
        refine WX.s1 rfl rfl ?_
        refine WX.icmp rfl (fun c_27 => absurd c_27 (by decide)) (fun c_27 => ?_)
        clear c_27
        refine WX.s1 rfl rfl ?_
        refine WX.mgetK (x := (nI ls.length)) rfl hm M_h rfl K_I_33 ?_
        refine WX.s1 rfl rfl ?_
        refine WX.s1 rfl rfl ?_
        refine WX.callC (vs := [.int 3]) rfl rfl rfl (Nat.le_of_ble_eq_true rfl) rfl ?_
        refine m_width ?_
        rw [show wdI 3 = 18 by decide]
        show WX _ _ _ 39 [(0, .ref m), (1, .int b), (2, .int 3)] [.int (18 : Int32), .int 1, .int (nI ls.length)] (n, s, h)
        refine WX.s1 (S' := [.int (1 <<< ((18 : Int32) &&& 31)), .int (nI ls.length)]) rfl rfl ?_
        rw [show (1 : Int32) <<< ((18 : Int32) &&& 31) = 262144 by decide]
        refine WX.icmp rfl (fun c_40 => ?_) (fun c_40 => ?_)
        · skip
          have n_40 : 262144 ≤ ls.length := (nI_leI (a := 262144) (b := ls.length) (by omega) (by omega)).mp c_40
          refine WX.s1 (L' := [(0, .ref m), (1, .int b), (2, .int (3 + 1))]) rfl rfl ?_
          rw [show ((3 : Int32) + 1) = 4 from rfl]
          refine WX.s1 rfl rfl ?_
          refine WX.s1 rfl rfl ?_
          refine WX.s1 rfl rfl ?_
          refine WX.icmp rfl (fun c_27 => ?_) (fun c_27 => absurd (by decide) c_27)
          clear c_27
          refine WX.s1 rfl rfl ?_
          exact WX.ret1 rfl (kk _)
        · skip
          have n_40 : ls.length < 262144 := Nat.lt_of_not_le (fun zz_ => c_40 ((nI_leI (a := 262144) (b := ls.length) (by omega) (by omega)).mpr zz_))
          refine WX.s1 rfl rfl ?_
          refine WX.s1 rfl rfl ?_
          refine WX.s1 rfl rfl ?_
          refine WX.callC (vs := [.int 3]) rfl rfl rfl (Nat.le_of_ble_eq_true rfl) rfl ?_
          refine m_width ?_
          rw [show wdI 3 = 18 by decide]
          show WX _ _ _ 49 [(0, .ref m), (1, .int b), (2, .int 3)] [.int (18 : Int32), .int 1, .int b] (n, s, h)
          refine WX.s1 (S' := [.int (1 <<< ((18 : Int32) &&& 31)), .int b]) rfl rfl ?_
          rw [show (1 : Int32) <<< ((18 : Int32) &&& 31) = 262144 by decide]
          refine WX.icmp rfl (fun c_50 => ?_) (fun c_50 => ?_)
          · skip
            refine WX.s1 (L' := [(0, .ref m), (1, .int b), (2, .int (3 + 1))]) rfl rfl ?_
            rw [show ((3 : Int32) + 1) = 4 from rfl]
            refine WX.s1 rfl rfl ?_
            refine WX.s1 rfl rfl ?_
            refine WX.s1 rfl rfl ?_
            refine WX.icmp rfl (fun c_27 => ?_) (fun c_27 => absurd (by decide) c_27)
            clear c_27
            refine WX.s1 rfl rfl ?_
            exact WX.ret1 rfl (kk _)
          · skip
            refine WX.s1 rfl rfl ?_
            exact WX.ret1 rfl (kk _)
      · skip
        have n_40 : ls.length < 16384 := Nat.lt_of_not_le (fun zz_ => c_40 ((nI_leI (a := 16384) (b := ls.length) (by omega) (by omega)).mpr zz_))
        refine WX.s1 rfl rfl ?_
        refine WX.s1 rfl rfl ?_
        refine WX.s1 rfl rfl ?_
        refine WX.callC (vs := [.int 2]) rfl rfl rfl (Nat.le_of_ble_eq_true rfl) rfl ?_
        refine m_width ?_
        rw [show wdI 2 = 14 by decide]
        show WX _ _ _ 49 [(0, .ref m), (1, .int b), (2, .int 2)] [.int (14 : Int32), .int 1, .int b] (n, s, h)
        refine WX.s1 (S' := [.int (1 <<< ((14 : Int32) &&& 31)), .int b]) rfl rfl ?_
        rw [show (1 : Int32) <<< ((14 : Int32) &&& 31) = 16384 by decide]
        refine WX.icmp rfl (fun c_50 => ?_) (fun c_50 => ?_)
        · skip
          refine WX.s1 (L' := [(0, .ref m), (1, .int b), (2, .int (2 + 1))]) rfl rfl ?_
          rw [show ((2 : Int32) + 1) = 3 from rfl]
          refine WX.s1 rfl rfl ?_
          refine WX.s1 rfl rfl ?_
          refine WX.s1 rfl rfl ?_
          refine WX.icmp rfl (fun c_27 => absurd c_27 (by decide)) (fun c_27 => ?_)
          clear c_27
          refine WX.s1 rfl rfl ?_
          refine WX.mgetK (x := (nI ls.length)) rfl hm M_h rfl K_I_33 ?_
          refine WX.s1 rfl rfl ?_
          refine WX.s1 rfl rfl ?_
          refine WX.callC (vs := [.int 3]) rfl rfl rfl (Nat.le_of_ble_eq_true rfl) rfl ?_
          refine m_width ?_
          rw [show wdI 3 = 18 by decide]
          show WX _ _ _ 39 [(0, .ref m), (1, .int b), (2, .int 3)] [.int (18 : Int32), .int 1, .int (nI ls.length)] (n, s, h)
          refine WX.s1 (S' := [.int (1 <<< ((18 : Int32) &&& 31)), .int (nI ls.length)]) rfl rfl ?_
          rw [show (1 : Int32) <<< ((18 : Int32) &&& 31) = 262144 by decide]
          refine WX.icmp rfl (fun c_40 => ?_) (fun c_40 => ?_)
          · skip
            have n_40 : 262144 ≤ ls.length := (nI_leI (a := 262144) (b := ls.length) (by omega) (by omega)).mp c_40
            refine WX.s1 (L' := [(0, .ref m), (1, .int b), (2, .int (3 + 1))]) rfl rfl ?_
            rw [show ((3 : Int32) + 1) = 4 from rfl]
            refine WX.s1 rfl rfl ?_
            refine WX.s1 rfl rfl ?_
            refine WX.s1 rfl rfl ?_
            refine WX.icmp rfl (fun c_27 => ?_) (fun c_27 => absurd (by decide) c_27)
            clear c_27
            refine WX.s1 rfl rfl ?_
            exact WX.ret1 rfl (kk _)
          · skip
            have n_40 : ls.length < 262144 := Nat.lt_of_not_le (fun zz_ => c_40 ((nI_leI (a := 262144) (b := ls.length) (by omega) (by omega)).mpr zz_))
            refine WX.s1 rfl rfl ?_
            refine WX.s1 rfl rfl ?_
            refine WX.s1 rfl rfl ?_
            refine WX.callC (vs := [.int 3]) rfl rfl rfl (Nat.le_of_ble_eq_true rfl) rfl ?_
            refine m_width ?_
            rw [show wdI 3 = 18 by decide]
            show WX _ _ _ 49 [(0, .ref m), (1, .int b), (2, .int 3)] [.int (18 : Int32), .int 1, .int b] (n, s, h)
            refine WX.s1 (S' := [.int (1 <<< ((18 : Int32) &&& 31)), .int b]) rfl rfl ?_
            rw [show (1 : Int32) <<< ((18 : Int32) &&& 31) = 262144 by decide]
            refine WX.icmp rfl (fun c_50 => ?_) (fun c_50 => ?_)
            · skip
              refine WX.s1 (L' := [(0, .ref m), (1, .int b), (2, .int (3 + 1))]) rfl rfl ?_
              rw [show ((3 : Int32) + 1) = 4 from rfl]
              refine WX.s1 rfl rfl ?_
              refine WX.s1 rfl rfl ?_
              refine WX.s1 rfl rfl ?_
              refine WX.icmp rfl (fun c_27 => ?_) (fun c_27 => absurd (by decide) c_27)
              clear c_27
              refine WX.s1 rfl rfl ?_
              exact WX.ret1 rfl (kk _)
            · skip
              refine WX.s1 rfl rfl ?_
              exact WX.ret1 rfl (kk _)
        · skip
          refine WX.s1 rfl rfl ?_
          exact WX.ret1 rfl (kk _)
    · skip
      have n_40 : ls.length < 1024 := Nat.lt_of_not_le (fun zz_ => c_40 ((nI_leI (a := 1024) (b := ls.length) (by omega) (by omega)).mpr zz_))
      refine WX.s1 rfl rfl ?_
      refine WX.s1 rfl rfl ?_
      refine WX.s1 rfl rfl ?_
      refine WX.callC (vs := [.int 1]) rfl rfl rfl (Nat.le_of_ble_eq_true rfl) rfl ?_
      refine m_width ?_
      rw [show wdI 1 = 10 by decide]
      show WX _ _ _ 49 [(0, .ref m), (1, .int b), (2, .int 1)] [.int (10 : Int32), .int 1, .int b] (n, s, h)
      refine WX.s1 (S' := [.int (1 <<< ((10 : Int32) &&& 31)), .int b]) rfl rfl ?_
      rw [show (1 : Int32) <<< ((10 : Int32) &&& 31) = 1024 by decide]
      refine WX.icmp rfl (fun c_50 => ?_) (fun c_50 => ?_)
      · skip
        refine WX.s1 (L' := [(0, .ref m), (1, .int b), (2, .int (1 + 1))]) rfl rfl ?_
        rw [show ((1 : Int32) + 1) = 2 from rfl]
        refine WX.s1 rfl rfl ?_
        refine WX.s1 rfl rfl ?_
        refine WX.s1 rfl rfl ?_
        refine WX.icmp rfl (fun c_27 => absurd c_27 (by decide)) (fun c_27 => ?_)
        clear c_27
        refine WX.s1 rfl rfl ?_
        refine WX.mgetK (x := (nI ls.length)) rfl hm M_h rfl K_I_33 ?_
        refine WX.s1 rfl rfl ?_
        refine WX.s1 rfl rfl ?_
        refine WX.callC (vs := [.int 2]) rfl rfl rfl (Nat.le_of_ble_eq_true rfl) rfl ?_
        refine m_width ?_
        rw [show wdI 2 = 14 by decide]
        show WX _ _ _ 39 [(0, .ref m), (1, .int b), (2, .int 2)] [.int (14 : Int32), .int 1, .int (nI ls.length)] (n, s, h)
        refine WX.s1 (S' := [.int (1 <<< ((14 : Int32) &&& 31)), .int (nI ls.length)]) rfl rfl ?_
        rw [show (1 : Int32) <<< ((14 : Int32) &&& 31) = 16384 by decide]
        refine WX.icmp rfl (fun c_40 => ?_) (fun c_40 => ?_)
        · skip
          have n_40 : 16384 ≤ ls.length := (nI_leI (a := 16384) (b := ls.length) (by omega) (by omega)).mp c_40
          refine WX.s1 (L' := [(0, .ref m), (1, .int b), (2, .int (2 + 1))]) rfl rfl ?_
          rw [show ((2 : Int32) + 1) = 3 from rfl]
          refine WX.s1 rfl rfl ?_
          refine WX.s1 rfl rfl ?_
          refine WX.s1 rfl rfl ?_
          refine WX.icmp rfl (fun c_27 => absurd c_27 (by decide)) (fun c_27 => ?_)
          clear c_27
          refine WX.s1 rfl rfl ?_
          refine WX.mgetK (x := (nI ls.length)) rfl hm M_h rfl K_I_33 ?_
          refine WX.s1 rfl rfl ?_
          refine WX.s1 rfl rfl ?_
          refine WX.callC (vs := [.int 3]) rfl rfl rfl (Nat.le_of_ble_eq_true rfl) rfl ?_
          refine m_width ?_
          rw [show wdI 3 = 18 by decide]
          show WX _ _ _ 39 [(0, .ref m), (1, .int b), (2, .int 3)] [.int (18 : Int32), .int 1, .int (nI ls.length)] (n, s, h)
          refine WX.s1 (S' := [.int (1 <<< ((18 : Int32) &&& 31)), .int (nI ls.length)]) rfl rfl ?_
          rw [show (1 : Int32) <<< ((18 : Int32) &&& 31) = 262144 by decide]
          refine WX.icmp rfl (fun c_40 => ?_) (fun c_40 => ?_)
          · skip
            have n_40 : 262144 ≤ ls.length := (nI_leI (a := 262144) (b := ls.length) (by omega) (by omega)).mp c_40
            refine WX.s1 (L' := [(0, .ref m), (1, .int b), (2, .int (3 + 1))]) rfl rfl ?_
            rw [show ((3 : Int32) + 1) = 4 from rfl]
            refine WX.s1 rfl rfl ?_
            refine WX.s1 rfl rfl ?_
            refine WX.s1 rfl rfl ?_
            refine WX.icmp rfl (fun c_27 => ?_) (fun c_27 => absurd (by decide) c_27)
            clear c_27
            refine WX.s1 rfl rfl ?_
            exact WX.ret1 rfl (kk _)
          · skip
            have n_40 : ls.length < 262144 := Nat.lt_of_not_le (fun zz_ => c_40 ((nI_leI (a := 262144) (b := ls.length) (by omega) (by omega)).mpr zz_))
            refine WX.s1 rfl rfl ?_
            refine WX.s1 rfl rfl ?_
            refine WX.s1 rfl rfl ?_
            refine WX.callC (vs := [.int 3]) rfl rfl rfl (Nat.le_of_ble_eq_true rfl) rfl ?_
            refine m_width ?_
            rw [show wdI 3 = 18 by decide]
            show WX _ _ _ 49 [(0, .ref m), (1, .int b), (2, .int 3)] [.int (18 : Int32), .int 1, .int b] (n, s, h)
            refine WX.s1 (S' := [.int (1 <<< ((18 : Int32) &&& 31)), .int b]) rfl rfl ?_
            rw [show (1 : Int32) <<< ((18 : Int32) &&& 31) = 262144 by decide]
            refine WX.icmp rfl (fun c_50 => ?_) (fun c_50 => ?_)
            · skip
              refine WX.s1 (L' := [(0, .ref m), (1, .int b), (2, .int (3 + 1))]) rfl rfl ?_
              rw [show ((3 : Int32) + 1) = 4 from rfl]
              refine WX.s1 rfl rfl ?_
              refine WX.s1 rfl rfl ?_
              refine WX.s1 rfl rfl ?_
              refine WX.icmp rfl (fun c_27 => ?_) (fun c_27 => absurd (by decide) c_27)
              clear c_27
              refine WX.s1 rfl rfl ?_
              exact WX.ret1 rfl (kk _)
            · skip
              refine WX.s1 rfl rfl ?_
              exact WX.ret1 rfl (kk _)
        · skip
          have n_40 : ls.length < 16384 := Nat.lt_of_not_le (fun zz_ => c_40 ((nI_leI (a := 16384) (b := ls.length) (by omega) (by omega)).mpr zz_))
          refine WX.s1 rfl rfl ?_
          refine WX.s1 rfl rfl ?_
          refine WX.s1 rfl rfl ?_
          refine WX.callC (vs := [.int 2]) rfl rfl rfl (Nat.le_of_ble_eq_true rfl) rfl ?_
          refine m_width ?_
          rw [show wdI 2 = 14 by decide]
          show WX _ _ _ 49 [(0, .ref m), (1, .int b), (2, .int 2)] [.int (14 : Int32), .int 1, .int b] (n, s, h)
          refine WX.s1 (S' := [.int (1 <<< ((14 : Int32) &&& 31)), .int b]) rfl rfl ?_
          rw [show (1 : Int32) <<< ((14 : Int32) &&& 31) = 16384 by decide]
          refine WX.icmp rfl (fun c_50 => ?_) (fun c_50 => ?_)
          · skip
            refine WX.s1 (L' := [(0, .ref m), (1, .int b), (2, .int (2 + 1))]) rfl rfl ?_
            rw [show ((2 : Int32) + 1) = 3 from rfl]
            refine WX.s1 rfl rfl ?_
            refine WX.s1 rfl rfl ?_
            refine WX.s1 rfl rfl ?_
            refine WX.icmp rfl (fun c_27 => absurd c_27 (by decide)) (fun c_27 => ?_)
            clear c_27
            refine WX.s1 rfl rfl ?_
            refine WX.mgetK (x := (nI ls.length)) rfl hm M_h rfl K_I_33 ?_
            refine WX.s1 rfl rfl ?_
            refine WX.s1 rfl rfl ?_
            refine WX.callC (vs := [.int 3]) rfl rfl rfl (Nat.le_of_ble_eq_true rfl) rfl ?_
            refine m_width ?_
            rw [show wdI 3 = 18 by decide]
            show WX _ _ _ 39 [(0, .ref m), (1, .int b), (2, .int 3)] [.int (18 : Int32), .int 1, .int (nI ls.length)] (n, s, h)
            refine WX.s1 (S' := [.int (1 <<< ((18 : Int32) &&& 31)), .int (nI ls.length)]) rfl rfl ?_
            rw [show (1 : Int32) <<< ((18 : Int32) &&& 31) = 262144 by decide]
            refine WX.icmp rfl (fun c_40 => ?_) (fun c_40 => ?_)
            · skip
              have n_40 : 262144 ≤ ls.length := (nI_leI (a := 262144) (b := ls.length) (by omega) (by omega)).mp c_40
              refine WX.s1 (L' := [(0, .ref m), (1, .int b), (2, .int (3 + 1))]) rfl rfl ?_
              rw [show ((3 : Int32) + 1) = 4 from rfl]
              refine WX.s1 rfl rfl ?_
              refine WX.s1 rfl rfl ?_
              refine WX.s1 rfl rfl ?_
              refine WX.icmp rfl (fun c_27 => ?_) (fun c_27 => absurd (by decide) c_27)
              clear c_27
              refine WX.s1 rfl rfl ?_
              exact WX.ret1 rfl (kk _)
            · skip
              have n_40 : ls.length < 262144 := Nat.lt_of_not_le (fun zz_ => c_40 ((nI_leI (a := 262144) (b := ls.length) (by omega) (by omega)).mpr zz_))
              refine WX.s1 rfl rfl ?_
              refine WX.s1 rfl rfl ?_
              refine WX.s1 rfl rfl ?_
              refine WX.callC (vs := [.int 3]) rfl rfl rfl (Nat.le_of_ble_eq_true rfl) rfl ?_
              refine m_width ?_
              rw [show wdI 3 = 18 by decide]
              show WX _ _ _ 49 [(0, .ref m), (1, .int b), (2, .int 3)] [.int (18 : Int32), .int 1, .int b] (n, s, h)
              refine WX.s1 (S' := [.int (1 <<< ((18 : Int32) &&& 31)), .int b]) rfl rfl ?_
              rw [show (1 : Int32) <<< ((18 : Int32) &&& 31) = 262144 by decide]
              refine WX.icmp rfl (fun c_50 => ?_) (fun c_50 => ?_)
              · skip
                refine WX.s1 (L' := [(0, .ref m), (1, .int b), (2, .int (3 + 1))]) rfl rfl ?_
                rw [show ((3 : Int32) + 1) = 4 from rfl]
                refine WX.s1 rfl rfl ?_
                refine WX.s1 rfl rfl ?_
                refine WX.s1 rfl rfl ?_
                refine WX.icmp rfl (fun c_27 => ?_) (fun c_27 => absurd (by decide) c_27)
                clear c_27
                refine WX.s1 rfl rfl ?_
                exact WX.ret1 rfl (kk _)
              · skip
                refine WX.s1 rfl rfl ?_
                exact WX.ret1 rfl (kk _)
          · skip
            refine WX.s1 rfl rfl ?_
            exact WX.ret1 rfl (kk _)
      · skip
        refine WX.s1 rfl rfl ?_
        exact WX.ret1 rfl (kk _)
  · skip
    have n_7 : ls.length < 1024 := Nat.lt_of_not_le (fun zz_ => c_7 ((nI_leI (a := 1024) (b := ls.length) (by omega) (by omega)).mpr zz_))
    refine WX.s1 rfl rfl ?_
    refine WX.s1 rfl rfl ?_
    refine WX.icmp rfl (fun c_14 => ?_) (fun c_14 => ?_)
    · skip
      refine WX.s1 rfl rfl ?_
      exact WX.ret1 rfl (kk _)
    · skip
      refine WX.s1 rfl rfl ?_
      refine WX.s1 rfl rfl ?_
      exact WX.ret1 rfl (kk _)
set_option maxRecDepth 20000 in
theorem m_layC {d n s : Nat} {h : Nat → aE} {m : Nat} {I : Nat → Int32} {AR : Nat → Nat → Int32} {LN : Nat → Int64} {L : Nat → Nat} {t : Nat} (hm : m + 43 < n) (M_h : MAt h m I AR LN) (hok : LenOk L t) (hLn : ∀ s, s < 256 → AR 8 s = nI (L s))  {Ψ : Option Value → aH → Prop} (kk : ∀ h' A', Fr h h' (inM m) → MAt h' m I A' LN → FaS AR A' (fun b => b = 38) → CeM A' L t → Ψ none (n, s, h')) : WO (mM (d + 1)) 188 [.ref m, .ref (m + 8), .int (nI t)] (n, s, h) Ψ := by
  refine WO.of (Nat.le_of_ble_eq_true rfl) ?_
  have FR_h : Fr h h (inM m) := Fr.rf
  have FI_I : Fi I I (fun f => f = 40) := Fi.rf
  have FA_AR : FaS AR AR (fun b => b = 38) := FaS.rf
  obtain ⟨ht1, ht2, hlt, hsum⟩ := id hok
  have h2t : 2 ^ t ≤ 2048 := Nat.le_trans (Nat.pow_le_pow_right (by decide) ht2) (by decide)
  have hall := bg_all hok
  show WX (lk tX12_layCells) (mM d) Ψ 0 [(0, .ref m), (1, .ref (m + 8)), (2, .int (nI t))] [] (n, s, h)
  refine WX.s1 rfl rfl ?_
  refine WX.s1 (L' := [(0, .ref m), (1, .ref (m + 8)), (2, .int (nI t)), (3, .int 0)]) rfl rfl ?_
  refine WX.s1 rfl rfl ?_
  refine WX.s1 (L' := [(0, .ref m), (1, .ref (m + 8)), (2, .int (nI t)), (3, .int 0), (4, .int 1)]) rfl rfl ?_
  have lp : ∀ (q v : Nat) (hM : Nat → aE) (AM : Nat → Nat → Int32), 1 ≤ v → v + q = t + 1 → Fr h hM (inM m) → MAt hM m I AM LN → FaS AR AM (fun b => b = 38) → CeQ AM L t (bgK L t v) → CeR AM L t v 0 → WX (lk tX12_layCells) (mM d) Ψ 5 [(0, .ref m), (1, .ref (m + 8)), (2, .int (nI t)), (3, .int (nI (bgK L t v))), (4, .int (nI v))] [] (n, s, hM) := by
    clear M_h FR_h FA_AR
    intro q
    induction q with
    | zero =>
      intro v hM AM hv1 hv FR_hM M_hM FA_AM hQ hR
      have hbv := bg_mono L t (show v ≤ t + 1 by omega)
      obtain rfl : v = t + 1 := by omega
      refine WX.s1 rfl rfl ?_
      refine WX.s1 rfl rfl ?_
      refine WX.icmp rfl (fun c_8 => ?_) (fun c_8 => absurd ((nI_ltI (a := t) (b := t + 1) (by omega) (by omega)).mpr (by omega)) c_8)
      clear c_8
      refine WX.ret0 rfl (kk hM AM FR_hM M_hM FA_AM ⟨fun s hs hl => hR s hs hl (Or.inl (by have := (wg_le hok hs hl).2.1; omega)), fun s x hs hl hx e => ?_⟩)
      have q1 := st_lt hok hs hl (Nat.zero_le 256) (w := t + 1) (i := 0) (Or.inl (by have := (wg_le hok hs hl).2.1; omega))
      rw [show cwK L t (t + 1) 0 = 0 from rfl] at q1
      have := hQ s x hs hl (by omega) e
      omega
    | succ q ih =>
      intro v hM AM hv1 hv FR_hM M_hM FA_AM hQ hR
      have hbv := bg_mono L t (show v ≤ t + 1 by omega)
      refine WX.s1 rfl rfl ?_
      refine WX.s1 rfl rfl ?_
      refine WX.icmp rfl (fun c_8 => absurd c_8 (fun zz_ => absurd ((nI_ltI (a := t) (b := v) (by omega) (by omega)).mp zz_) (Nat.not_lt.mpr (by omega)))) (fun c_8 => ?_)
      clear c_8
      refine WX.s1 rfl rfl ?_
      refine WX.s1 (L' := [(0, .ref m), (1, .ref (m + 8)), (2, .int (nI t)), (3, .int (nI (bgK L t v))), (4, .int (nI v)), (5, .int 0)]) rfl rfl ?_
      have lp2 : ∀ (q i : Nat) (hM : Nat → aE) (AM : Nat → Nat → Int32), i + q = 256 → Fr h hM (inM m) → MAt hM m I AM LN → FaS AR AM (fun b => b = 38) → CeQ AM L t (bgK L t v + cwK L t v i) → CeR AM L t v i → WX (lk tX12_layCells) (mM d) Ψ 14 [(0, .ref m), (1, .ref (m + 8)), (2, .int (nI t)), (3, .int (nI (bgK L t v + cwK L t v i))), (4, .int (nI v)), (5, .int (nI i))] [] (n, s, hM) := by
        clear M_hM FR_hM FA_AM hQ hR
        intro q
        induction q with
        | zero =>
          intro i hM AM hi FR_hM M_hM FA_AM hQ hR
          have hcv : (bgK L t v + cwK L t v i) ≤ 2048 := by have q1 := cw_mono L t v (show i ≤ 256 by omega); have q2 := bg_mono L t (show v + 1 ≤ t + 1 by omega); obtain ⟨y, rfl⟩ : ∃ y, v = y + 1 := ⟨v - 1, by omega⟩; rw [show y + 1 + 1 = y + 2 from rfl, bg_s] at q2; omega
          obtain rfl : i = 256 := by omega
          refine WX.s1 rfl rfl ?_
          refine WX.s1 rfl rfl ?_
          refine WX.icmp rfl (fun c_19 => ?_) (fun c_19 => absurd ((nI_leI (a := 256) (b := 256) (by omega) (by omega)).mpr (by omega)) c_19)
          clear c_19
          refine WX.s1 (L' := [(0, .ref m), (1, .ref (m + 8)), (2, .int (nI t)), (3, .int (nI (bgK L t v + cwK L t v 256))), (4, .int ((nI v) + 1)), (5, .int (nI 256))]) rfl rfl ?_
          rw [show ((nI v) + 1) = nI (v + 1) from nI_add v 1]
          refine WX.s1 rfl rfl ?_
          refine WX.keep (y := 188) [0, 1, 2, 3, 4] (show ([0, 1, 2, 3, 4, 5] : List Nat).Nodup by decide) rfl ?_
          have e9 : bgK L t v + cwK L t v 256 = bgK L t (v + 1) := by obtain ⟨y, rfl⟩ : ∃ y, v = y + 1 := ⟨v - 1, by omega⟩; exact (bg_s L t y).symm
          rw [e9] at hQ ⊢
          exact ih (v + 1) hM AM (by omega) (by omega) FR_hM M_hM FA_AM hQ (fun s hs hl hw => hR s hs hl (by rcases hw with z | ⟨z, y⟩; by_cases x : wgK L t s < v; exact Or.inl x; exact Or.inr ⟨by omega, hs⟩; omega))
        | succ q ih2 =>
          intro i hM AM hi FR_hM M_hM FA_AM hQ hR
          have hcv : (bgK L t v + cwK L t v i) ≤ 2048 := by have q1 := cw_mono L t v (show i ≤ 256 by omega); have q2 := bg_mono L t (show v + 1 ≤ t + 1 by omega); obtain ⟨y, rfl⟩ : ∃ y, v = y + 1 := ⟨v - 1, by omega⟩; rw [show y + 1 + 1 = y + 2 from rfl, bg_s] at q2; omega
          have hli := hlt i (by omega)
          have hwi := wg_iff hok (show i < 256 by omega) hv1 (show v ≤ t by omega)
          have h8 : AM 8 i = nI (L i) := by rw [FA_AM 8 (by decide)]; exact hLn i (by omega)
          refine WX.s1 rfl rfl ?_
          refine WX.s1 rfl rfl ?_
          refine WX.icmp rfl (fun c_19 => absurd c_19 (fun zz_ => absurd ((nI_leI (a := 256) (b := i) (by omega) (by omega)).mp zz_) (Nat.not_le.mpr (by omega)))) (fun c_19 => ?_)
          clear c_19
          refine WX.s1 rfl rfl ?_
          refine WX.s1 (L' := [(0, .ref m), (1, .ref (m + 8)), (2, .int (nI t)), (3, .int (nI (bgK L t v + cwK L t v i))), (4, .int (nI v)), (5, .int (nI i)), (6, .int 0)]) rfl rfl ?_
          by_cases hm_ : L i = t + 1 - v
          · obtain ⟨hl0, hw0⟩ := hwi.mp hm_
            have hsi := st_in hok (show i < 256 by omega) hl0
            have hstk : stK L t i = (bgK L t v + cwK L t v i) := by unfold stK; rw [hw0]
            rw [hw0, hstk] at hsi
            have hp0 : 0 < 2 ^ (v - 1) := Nat.pow_pos (by decide)
            have hp1 : 2 ^ (v - 1) ≤ 2 ^ 10 := Nat.pow_le_pow_right (by decide) (by omega)
            have hcs := cw_s (L := L) (t := t) (s := i) hw0
            rw [show (2 : Nat) ^ 10 = 1024 by decide] at hp1
            obtain ⟨PW, hPW⟩ : ∃ p, p = 2 ^ (v - 1) := ⟨_, rfl⟩
            rw [← hPW] at hsi hp0 hp1 hcs
            have hsb : (bgK L t v + cwK L t v i) + PW ≤ 2048 := Nat.le_trans hsi.1 (Nat.le_trans hsi.2 h2t)
            have lp3 : ∀ (q x : Nat) (hM : Nat → aE) (AM : Nat → Nat → Int32), x + q = PW → Fr h hM (inM m) → MAt hM m I AM LN → FaS AR AM (fun b => b = 38) → CeQ AM L t (bgK L t v + cwK L t v i + x) → CeR AM L t v i → (0 < x → AM 38 (stK L t i) = nI i) → WX (lk tX12_layCells) (mM d) Ψ 25 [(0, .ref m), (1, .ref (m + 8)), (2, .int (nI t)), (3, .int (nI (bgK L t v + cwK L t v i + x))), (4, .int (nI v)), (5, .int (nI i)), (6, .int (nI x))] [] (n, s, hM) := by
              clear M_hM FR_hM FA_AM hQ hR h8
              intro q
              induction q with
              | zero =>
                intro x hM AM hx FR_hM M_hM FA_AM hQ hR hx0
                have h8b : AM 8 i = nI (L i) := by rw [FA_AM 8 (by decide)]; exact hLn i (by omega)
                obtain rfl : x = PW := by omega
                refine WX.s1 rfl rfl ?_
                refine WX.s1 rfl rfl ?_
                refine WX.mald (c := 8) rfl hm M_hM (by decide) (by decide) (by decide) (by decide) (vp_in_nI (N := 256) (by omega) (by decide)) ?_
                rw [nI_clamp (by omega), h8b]
                refine WX.s1 rfl rfl ?_
                refine WX.s1 rfl rfl ?_
                refine WX.s1 (S' := [.int ((nI t) + 1), .int (nI (L i))]) rfl rfl ?_
                rw [show ((nI t) + 1) = nI (t + 1) from nI_add t 1]
                refine WX.s1 rfl rfl ?_
                refine WX.s1 (S' := [.int ((nI (t + 1)) - (nI v)), .int (nI (L i))]) rfl rfl ?_
                rw [nI_subN (by omega)]
                refine WX.icmp rfl (fun c_35 => absurd c_35 (fun zz_ => zz_ ((nI_eq (a := L i) (b := t + 1 - v) (by omega) (by omega)).mpr (by omega)))) (fun c_35 => ?_)
                clear c_35
                refine WX.s1 rfl rfl ?_
                refine WX.s1 rfl rfl ?_
                refine WX.s1 rfl rfl ?_
                refine WX.s1 rfl rfl ?_
                refine WX.s1 (S' := [.int ((nI v) - 1), .int 1, .int (nI x)]) rfl rfl ?_
                rw [nI_pm1 (by omega)]
                refine WX.s1 (S' := [.int (1 <<< ((nI (v - 1)) &&& 31)), .int (nI x)]) rfl rfl ?_
                rw [sh1 (v - 1) (by omega), ← hPW]
                refine WX.icmp rfl (fun c_46 => ?_) (fun c_46 => absurd ((nI_leI (a := x) (b := x) (by omega) (by omega)).mpr (by omega)) c_46)
                clear c_46
                refine WX.s1 (L' := [(0, .ref m), (1, .ref (m + 8)), (2, .int (nI t)), (3, .int (nI (bgK L t v + cwK L t v i + x))), (4, .int (nI v)), (5, .int ((nI i) + 1)), (6, .int (nI x))]) rfl rfl ?_
                rw [show ((nI i) + 1) = nI (i + 1) from nI_add i 1]
                refine WX.s1 rfl rfl ?_
                refine WX.keep (y := 188) [0, 1, 2, 3, 4, 5] (show ([0, 1, 2, 3, 4, 5, 6] : List Nat).Nodup by decide) rfl ?_
                rw [show bgK L t v + cwK L t v i + x = bgK L t v + cwK L t v (i + 1) by omega] at hQ ⊢
                refine ih2 (i + 1) hM AM (by omega) FR_hM M_hM FA_AM hQ (fun s hs hl hw => ?_)
                by_cases z : s = i
                · rw [z]; exact hx0 hp0
                · exact hR s hs hl (by omega)
              | succ q ih3 =>
                intro x hM AM hx FR_hM M_hM FA_AM hQ hR hx0
                have h8b : AM 8 i = nI (L i) := by rw [FA_AM 8 (by decide)]; exact hLn i (by omega)
                refine WX.s1 rfl rfl ?_
                refine WX.s1 rfl rfl ?_
                refine WX.mald (c := 8) rfl hm M_hM (by decide) (by decide) (by decide) (by decide) (vp_in_nI (N := 256) (by omega) (by decide)) ?_
                rw [nI_clamp (by omega), h8b]
                refine WX.s1 rfl rfl ?_
                refine WX.s1 rfl rfl ?_
                refine WX.s1 (S' := [.int ((nI t) + 1), .int (nI (L i))]) rfl rfl ?_
                rw [show ((nI t) + 1) = nI (t + 1) from nI_add t 1]
                refine WX.s1 rfl rfl ?_
                refine WX.s1 (S' := [.int ((nI (t + 1)) - (nI v)), .int (nI (L i))]) rfl rfl ?_
                rw [nI_subN (by omega)]
                refine WX.icmp rfl (fun c_35 => absurd c_35 (fun zz_ => zz_ ((nI_eq (a := L i) (b := t + 1 - v) (by omega) (by omega)).mpr (by omega)))) (fun c_35 => ?_)
                clear c_35
                refine WX.s1 rfl rfl ?_
                refine WX.s1 rfl rfl ?_
                refine WX.s1 rfl rfl ?_
                refine WX.s1 rfl rfl ?_
                refine WX.s1 (S' := [.int ((nI v) - 1), .int 1, .int (nI x)]) rfl rfl ?_
                rw [nI_pm1 (by omega)]
                refine WX.s1 (S' := [.int (1 <<< ((nI (v - 1)) &&& 31)), .int (nI x)]) rfl rfl ?_
                rw [sh1 (v - 1) (by omega), ← hPW]
                refine WX.icmp rfl (fun c_46 => absurd c_46 (fun zz_ => absurd ((nI_leI (a := PW) (b := x) (by omega) (by omega)).mp zz_) (Nat.not_le.mpr (by omega)))) (fun c_46 => ?_)
                clear c_46
                refine WX.s1 rfl rfl ?_
                refine WX.mget rfl hm M_hM rfl ?_
                refine WX.s1 rfl rfl ?_
                refine WX.s1 rfl rfl ?_
                refine WX.mast (c := 38) rfl hm M_hM (by decide) (by decide) (by decide) (by decide) (vp_in_nI (N := 2048) (by omega) (by decide)) (fun h56n1 A56n1 e_A56n1 M_h56n1 frh56n1 => ?_)
                try dsimp only at e_A56n1
                have FR_h56n1 := FR_hM.ztr frh56n1
                clear M_hM FR_hM frh56n1
                refine WX.s1 (L' := [(0, .ref m), (1, .ref (m + 8)), (2, .int (nI t)), (3, .int ((nI (bgK L t v + cwK L t v i + x)) + 1)), (4, .int (nI v)), (5, .int (nI i)), (6, .int (nI x))]) rfl rfl ?_
                rw [show ((nI (bgK L t v + cwK L t v i + x)) + 1) = nI (bgK L t v + cwK L t v i + x + 1) from nI_add (bgK L t v + cwK L t v i + x) 1]
                refine WX.s1 (L' := [(0, .ref m), (1, .ref (m + 8)), (2, .int (nI t)), (3, .int (nI (bgK L t v + cwK L t v i + x + 1))), (4, .int (nI v)), (5, .int (nI i)), (6, .int ((nI x) + 1))]) rfl rfl ?_
                rw [show ((nI x) + 1) = nI (x + 1) from nI_add x 1]
                refine WX.s1 rfl rfl ?_
                rw [nI_clamp (by omega)] at e_A56n1
                refine ih3 (x + 1) h56n1 A56n1 (by omega) FR_h56n1 M_h56n1 (FA_AM.ast e_A56n1 rfl) (fun s y hs hl hy e => ?_) (fun s hs hl hw => ?_) (fun _ => ?_)
                · rw [e_A56n1, upA_same] at e
                  by_cases z : y = bgK L t v + cwK L t v i + x
                  · rw [z, pk_us] at e
                    have e2 := (nI_eq (by omega) (by omega)).mp e
                    rw [← e2, hstk, z]; omega
                  · rw [pk_un z] at e; exact hQ s y hs hl (by omega) e
                · have q1 := st_lt hok hs hl (show i ≤ 256 by omega) hw
                  rw [e_A56n1, upA_same, pk_un (by omega)]; exact hR s hs hl hw
                · rw [e_A56n1, upA_same, hstk]
                  by_cases z : x = 0
                  · rw [z, Nat.add_zero, pk_us]
                  · rw [pk_un (by omega), ← hstk]; exact hx0 (by omega)
            exact lp3 PW 0 hM AM (by omega) FR_hM M_hM FA_AM hQ hR (fun z => absurd z (Nat.lt_irrefl 0))
          · have h8b := h8
            refine WX.s1 rfl rfl ?_
            refine WX.s1 rfl rfl ?_
            refine WX.mald (c := 8) rfl hm M_hM (by decide) (by decide) (by decide) (by decide) (vp_in_nI (N := 256) (by omega) (by decide)) ?_
            rw [nI_clamp (by omega), h8b]
            refine WX.s1 rfl rfl ?_
            refine WX.s1 rfl rfl ?_
            refine WX.s1 (S' := [.int ((nI t) + 1), .int (nI (L i))]) rfl rfl ?_
            rw [show ((nI t) + 1) = nI (t + 1) from nI_add t 1]
            refine WX.s1 rfl rfl ?_
            refine WX.s1 (S' := [.int ((nI (t + 1)) - (nI v)), .int (nI (L i))]) rfl rfl ?_
            rw [nI_subN (by omega)]
            refine WX.icmp rfl (fun c_35 => ?_) (fun c_35 => absurd (fun z => hm_ ((nI_eq (by omega) (by omega)).mp z)) c_35)
            refine WX.s1 (L' := [(0, .ref m), (1, .ref (m + 8)), (2, .int (nI t)), (3, .int (nI (bgK L t v + cwK L t v i))), (4, .int (nI v)), (5, .int ((nI i) + 1)), (6, .int 0)]) rfl rfl ?_
            rw [show ((nI i) + 1) = nI (i + 1) from nI_add i 1]
            refine WX.s1 rfl rfl ?_
            refine WX.keep (y := 188) [0, 1, 2, 3, 4, 5] (show ([0, 1, 2, 3, 4, 5, 6] : List Nat).Nodup by decide) rfl ?_
            have hnw : L i ≠ 0 → wgK L t i ≠ v := fun a b => hm_ (hwi.mpr ⟨a, b⟩)
            have e9 : cwK L t v (i + 1) = cwK L t v i := cw_n (fun z => by by_cases y : L i = 0; rw [show wgK L t i = 0 from if_pos y] at z; omega; exact hnw y z)
            have h9 := ih2 (i + 1) hM AM (by omega) FR_hM M_hM FA_AM (by rw [e9]; exact hQ) (fun s hs hl hw => hR s hs hl (by rcases hw with z | ⟨z, y⟩; exact Or.inl z; refine Or.inr ⟨z, ?_⟩; by_cases x : s = i; rw [x] at z hl; exact absurd z (hnw hl); omega))
            rw [e9] at h9
            exact h9
      exact lp2 256 0 hM AM (by omega) FR_hM M_hM FA_AM hQ hR
  exact lp t 1 h AR (by decide) (by omega) FR_h M_h FA_AR (fun s x hs hl hx => absurd hx (Nat.not_lt_zero x)) (fun s hs hl hw => by have := (wg_le hok hs hl).1; omega)
