/-! the stream of the sequences: what it is, and the reference's -/
abbrev Clm : Type := Tb × List Nat × (Nat → Nat) × (Nat → Nat)
def clm (t : Tb) (sy wd B : Nat → Nat) (vs : List Nat) : Clm := (t, vs.map sy, fun i => vs.getD i 0 - B (sy (vs.getD i 0)), fun i => wd (sy (vs.getD i 0)))
noncomputable def pF (c : Clm) (i : Nat) : Nat := Classical.epsilon (fun p => ∃ a, RowC c.1.2 64 c.1.1 (c.2.1.drop i) a p)
noncomputable def vF (c : Clm) (i : Nat) : Nat := Classical.epsilon (fun W => IsNx c.1.2 64 c.1.1 (c.2.1.getD i 0) (pF c (i + 1)) (pF c i) W)
def ClOk (c : Clm) (N : Nat) : Prop := (c.1.1 = 0 ∨ 5 ≤ c.1.1) ∧ c.1.1 ≤ 9 ∧ mSum c.1.2 64 = 2 ^ c.1.1 ∧ c.2.1.length = N ∧ (∀ s, s ∈ c.2.1 → s < 64 ∧ massU (c.1.2 s) ≠ 0) ∧ ∀ i, i < N → c.2.2.1 i < 2 ^ 31 ∧ c.2.2.2 i ≤ 13
theorem pf_row {c : Clm} {N i : Nat} (h : ClOk c N) (hi : i < N) : (∃ a, RowC c.1.2 64 c.1.1 (c.2.1.drop i) a (pF c i)) ∧ pF c i < 2 ^ c.1.1 := by
  obtain ⟨h1, h2, h3, h4, h5, -⟩ := h
  obtain ⟨a, p, hR, hp, -⟩ := row_ex h1 h2 h3 (c.2.1.drop i) (fun z => by
    have := congrArg List.length z
    rw [List.length_drop] at this
    simp at this
    omega) (fun s hs => h5 s (List.mem_of_mem_drop hs))
  have h6 : ∃ a, RowC c.1.2 64 c.1.1 (c.2.1.drop i) a (pF c i) := Classical.epsilon_spec (p := fun p => ∃ a, RowC c.1.2 64 c.1.1 (c.2.1.drop i) a p) ⟨p, a, hR⟩
  obtain ⟨b, hb⟩ := h6
  have e := (row_uniq h1 h2 h3 _ _ _ _ _ hb hR).2
  exact ⟨⟨b, hb⟩, by rw [e]; exact hp⟩
theorem pf_low {c : Clm} {N i : Nat} (h : ClOk c N) (hi : i + 1 = N) : IsLow c.1.2 64 c.1.1 (c.2.1.getD i 0) (pF c i) := by
  obtain ⟨⟨a, hR⟩, -⟩ := pf_row h (show i < N by omega)
  rw [drop_last (by rw [h.2.2.2.1]; exact hi)] at hR
  exact hR.1
theorem pf_nx {c : Clm} {N i : Nat} (h : ClOk c N) (hi : i + 1 < N) : IsNx c.1.2 64 c.1.1 (c.2.1.getD i 0) (pF c (i + 1)) (pF c i) (vF c i) := by
  obtain ⟨⟨a, hR⟩, -⟩ := pf_row h (show i < N by omega)
  obtain ⟨⟨b, hQ⟩, -⟩ := pf_row h hi
  have h4 := h.2.2.2.1
  rw [drop_get (show i < c.2.1.length by omega), drop_get (show i + 1 < c.2.1.length by omega)] at hR
  rw [drop_get (show i + 1 < c.2.1.length by omega)] at hQ
  obtain ⟨c2, p2, W, r1, r2, -⟩ := hR
  have e := (row_uniq h.1 h.2.1 h.2.2.1 _ _ _ _ _ r1 hQ).2
  rw [e] at r2
  exact Classical.epsilon_spec (p := fun W => IsNx c.1.2 64 c.1.1 (c.2.1.getD i 0) (pF c (i + 1)) (pF c i) W) ⟨W, r2⟩
theorem pf_lowE {c : Clm} {N i p : Nat} (h : ClOk c N) (hi : i + 1 = N) (q : IsLow c.1.2 64 c.1.1 (c.2.1.getD i 0) p) : p = pF c i := low_uniq q (pf_low h hi)
theorem pf_nxE {c : Clm} {N i p W : Nat} (h : ClOk c N) (hi : i + 1 < N) (q : IsNx c.1.2 64 c.1.1 (c.2.1.getD i 0) (pF c (i + 1)) p W) : p = pF c i ∧ W = vF c i := nx_uniq h.1 h.2.1 h.2.2.1 q (pf_nx h hi)
theorem vf_le {c : Clm} {N i : Nat} (h : ClOk c N) (hi : i + 1 < N) : vF c i ≤ c.1.1 := (nx_lt (pf_nx h hi)).2
theorem addB_0 (b : Nat × Nat) (x : Nat) : addB b x 0 = b := by
  show (b.1 + 0, b.2 + x % 2 ^ 0 * 2 ^ b.1) = b
  rw [Nat.pow_zero, Nat.mod_one, Nat.zero_mul]
  rfl
noncomputable def stB (c : Clm) (i : Nat) (b : Nat × Nat) : Nat × Nat := addB b (pF c (i + 1)) (vF c i)
def adB (c0 c1 c2 : Clm) (i : Nat) (b : Nat × Nat) : Nat × Nat := addB (addB (addB b (c0.2.2.1 i) (c0.2.2.2 i)) (c2.2.2.1 i) (c2.2.2.2 i)) (c1.2.2.1 i) (c1.2.2.2 i)
noncomputable def seS (c0 c1 c2 : Clm) (i : Nat) (b : Nat × Nat) : Nat × Nat := adB c0 c1 c2 i (stB c0 i (stB c2 i (stB c1 i b)))
noncomputable def seL (c0 c1 c2 : Clm) : Nat → Nat × Nat → Nat × Nat
  | 0, b => b
  | k + 1, b => seL c0 c1 c2 k (seS c0 c1 c2 k b)
noncomputable def seE (c0 c1 c2 : Clm) (b : Nat × Nat) : Nat × Nat := addB (addB (addB b (pF c2 0) c2.1.1) (pF c1 0) c1.1.1) (pF c0 0) c0.1.1
noncomputable def seqB (c0 c1 c2 : Clm) (N : Nat) : Nat × Nat := seE c0 c1 c2 (seL c0 c1 c2 (N - 1) (adB c0 c1 c2 (N - 1) (0, 0)))
noncomputable def seqY (c0 c1 c2 : Clm) (N : Nat) : List Nat := leBy ((seqB c0 c1 c2 N).2 + 2 ^ (seqB c0 c1 c2 N).1) ((seqB c0 c1 c2 N).1 / 8 + 1)
theorem ad_1 {c0 c1 c2 : Clm} {N i : Nat} (h0 : ClOk c0 N) (h1 : ClOk c1 N) (h2 : ClOk c2 N) (hi : i < N) (b : Nat × Nat) : (adB c0 c1 c2 i b).1 ≤ b.1 + 39 := by
  have a0 := (h0.2.2.2.2.2 i hi).2
  have a1 := (h1.2.2.2.2.2 i hi).2
  have a2 := (h2.2.2.2.2.2 i hi).2
  show b.1 + _ + _ + _ ≤ _
  omega
theorem st_1 {c : Clm} {N i : Nat} (h : ClOk c N) (hi : i + 1 < N) (b : Nat × Nat) : (stB c i b).1 ≤ b.1 + 9 := by
  have a0 := vf_le h hi
  have a1 := h.2.1
  show b.1 + _ ≤ _
  omega
theorem ses_1 {c0 c1 c2 : Clm} {N i : Nat} (h0 : ClOk c0 N) (h1 : ClOk c1 N) (h2 : ClOk c2 N) (hi : i + 1 < N) (b : Nat × Nat) : (seS c0 c1 c2 i b).1 ≤ b.1 + 66 := by
  have a := ad_1 h0 h1 h2 (show i < N by omega) (stB c0 i (stB c2 i (stB c1 i b)))
  have a0 := st_1 h0 hi (stB c2 i (stB c1 i b))
  have a1 := st_1 h2 hi (stB c1 i b)
  have a2 := st_1 h1 hi b
  show (adB c0 c1 c2 i _).1 ≤ _
  omega
theorem PlA.mv {A B : Nat → Nat → Int32} {T T2 o o2 N : Nat} {u : Nat → Nat} (h : PlA A T2 o2 N u) (f : FaT A B T o) (hd : T2 + 2 ^ o2 ≤ T ∨ T + 2 ^ o ≤ T2) : PlA B T2 o2 N u := fun k hk => by
  have hq : T2 + k < T ∨ T + 2 ^ o ≤ T2 + k := by omega
  obtain ⟨e1, g, e2, e3, e4, e5⟩ := h k hk
  exact ⟨(f.2 26 _ (by decide) hq).trans e1, g, e2, e3, (f.2 27 _ (by decide) hq).trans e4, (f.2 28 _ (by decide) hq).trans e5⟩
def PlO (A : Nat → Nat → Int32) (tb : Nat) (t : Tb) : Prop := t.1 = 0 ∨ PlA A (512 * tb) t.1 64 t.2
theorem PlO.fa {A B : Nat → Nat → Int32} {tb : Nat} {t : Tb} (h : PlO A tb t) (h1 : B 26 = A 26) (h2 : B 27 = A 27) (h3 : B 28 = A 28) : PlO B tb t := by
  rcases h with h | h
  · exact Or.inl h
  · refine Or.inr (fun k hk => ?_)
    rw [h1, h2, h3]
    exact h k hk
def LaF (A B : Nat → Nat → Int32) (tb : Nat) : Prop := FaS A B (fun b => b = 26 ∨ b = 27 ∨ b = 28 ∨ b = 29) ∧ ∀ b q, b ≠ 29 → (q < 512 * tb ∨ 512 * tb + 512 ≤ q) → B b q = A b q
theorem PlO.mv {A B : Nat → Nat → Int32} {tb t2 : Nat} {t : Tb} (h : PlO A t2 t) (f : LaF A B tb) (hd : t2 ≠ tb) (ht : t.1 ≤ 9) : PlO B t2 t := by
  rcases h with h | h
  · exact Or.inl h
  · have hp : 2 ^ t.1 ≤ 2 ^ 9 := Nat.pow_le_pow_right (by decide) ht
    refine Or.inr (fun k hk => ?_)
    have hq : 512 * t2 + k < 512 * tb ∨ 512 * tb + 512 ≤ 512 * t2 + k := by omega
    obtain ⟨e1, g, e2, e3, e4, e5⟩ := h k hk
    exact ⟨(f.2 26 _ (by decide) hq).trans e1, g, e2, e3, (f.2 27 _ (by decide) hq).trans e4, (f.2 28 _ (by decide) hq).trans e5⟩
theorem RefT.fa {A B : Nat → Nat → Int32} {tb : Nat} {t : Option Tb} (h : RefT A tb t) (h1 : B 10 = A 10) (h2 : B 9 = A 9) : RefT B tb t := by
  cases t with
  | none => show B 10 tb = -1; rw [h1]; exact h
  | some t => exact ⟨by rw [h1]; exact h.1, fun s hs => by rw [h2]; exact h.2 s hs⟩
def MoM (A : Nat → Nat → Int32) (tb : Nat) (c : Clm) : Prop := ∀ i, i < c.2.1.length → A 21 (8001 * tb + i) = nI (c.2.1.getD i 0) ∧ A 22 (8001 * tb + i) = nI (c.2.2.2 i) ∧ A 23 (8001 * tb + i) = nI (c.2.2.1 i)
theorem MoM.fa {A B : Nat → Nat → Int32} {tb : Nat} {c : Clm} (h : MoM A tb c) (h1 : B 21 = A 21) (h2 : B 22 = A 22) (h3 : B 23 = A 23) : MoM B tb c := fun i hi => by
  rw [h1, h2, h3]
  exact h i hi
theorem FrameIs.fa {I J : Nat → Int32} {A B : Nat → Nat → Int32} {l : List Nat} (F : FrameIs I A l) (h1 : J 40 = I 40) (h2 : B 25 = A 25) : FrameIs J B l := by
  unfold FrameIs
  rw [h1, h2]
  exact F
theorem MadeIs.fa {I J : Nat → Int32} {A B : Nat → Nat → Int32} {c w : Nat} (F : MadeIs I A c w) (h1 : J 38 = I 38) (h2 : B 24 = A 24) : MadeIs J B c w := by
  unfold MadeIs
  rw [h1, h2]
  exact F
set_option maxRecDepth 20000 in
theorem m_sayMade {d n s : Nat} {h : Nat → aE} {m : Nat} {I : Nat → Int32} {AR : Nat → Nat → Int32} {LN : Nat → Int64} {c w0 : Nat} {l : List Nat} (hm : m + 43 < n) (M_h : MAt h m I AR LN) (hM : MadeIs I AR c w0) (hF : FrameIs I AR l) (hl : l.length < 2 ^ 28) (K_I_38 : I 38 = (nI c)) {Ψ : Option Value → aH → Prop} (kk : ∀ h' I' A', Fr h h' (inM m) → MAt h' m I' A' LN → Fi I I' (fun f => f = 40) → Fa AR A' 25 → FrameIs I' A' (l ++ leBy w0 (c / 8)) → Ψ none (n, s, h')) : WO (mM (d + 2)) 152 [.ref m] (n, s, h) Ψ := by
  refine WO.of (Nat.le_of_ble_eq_true rfl) ?_
  have FR_h : Fr h h (inM m) := Fr.rf
  have FI_I : Fi I I (fun f => f = 40) := Fi.rf
  have FA_AR : Fa AR AR 25 := Fa.rf
  have hcb := hM.2.1
  show WX (lk tX12_sayMade) (mM (d + 1)) Ψ 0 [(0, .ref m)] [] (n, s, h)
  refine WX.s1 rfl rfl ?_
  refine WX.s1 (L' := [(0, .ref m), (1, .int 0)]) rfl rfl ?_
  have lp : ∀ (t i : Nat) (hL : Nat → aE) (IL : Nat → Int32) (AL : Nat → Nat → Int32), i + t = c / 8 → Fr h hL (inM m) → MAt hL m IL AL LN → Fi I IL (fun f => f = 40) → Fa AR AL 25 → FrameIs IL AL (l ++ leBy w0 i) → IL 38 = nI c → WX (lk tX12_sayMade) (mM (d + 1)) Ψ 2 [(0, .ref m), (1, .int (nI i))] [] (n, s, hL) := by
    clear M_h FR_h FI_I FA_AR
    intro t
    induction t with
    | zero =>
      intro i hL IL AL hi FR_hL M_hL FI_IL FA_AL hFL K_IL_38
      obtain rfl : i = c / 8 := by omega
      refine WX.s1 rfl rfl ?_
      refine WX.s1 rfl rfl ?_
      refine WX.mgetK (x := (nI c)) rfl hm M_hL rfl K_IL_38 ?_
      refine WX.s1 rfl rfl ?_
      refine WX.div rfl (by decide) ?_
      rw [show nI c / 8 = nI (c / 8) from pk_div (by omega) (by decide) (by decide)]
      refine WX.icmp rfl (fun c_10 => ?_) (fun c_10 => absurd ((nI_leI (a := c / 8) (b := c / 8) (by omega) (by omega)).mpr (by omega)) c_10)
      clear c_10
      exact WX.ret0 rfl (kk hL IL AL FR_hL M_hL FI_IL FA_AL hFL)
    | succ t ih =>
      intro i hL IL AL hi FR_hL M_hL FI_IL FA_AL hFL K_IL_38
      have hlen : (l ++ leBy w0 i).length < 2 ^ 29 := by rw [List.length_append, leBy_len]; omega
      refine WX.s1 rfl rfl ?_
      refine WX.s1 rfl rfl ?_
      refine WX.mgetK (x := (nI c)) rfl hm M_hL rfl K_IL_38 ?_
      refine WX.s1 rfl rfl ?_
      refine WX.div rfl (by decide) ?_
      rw [show nI c / 8 = nI (c / 8) from pk_div (by omega) (by decide) (by decide)]
      refine WX.icmp rfl (fun c_10 => absurd c_10 (fun zz_ => absurd ((nI_leI (a := c / 8) (b := i) (by omega) (by omega)).mp zz_) (Nat.not_le.mpr (by omega)))) (fun c_10 => ?_)
      clear c_10
      refine WX.s1 rfl rfl ?_
      refine WX.s1 rfl rfl ?_
      refine WX.mget rfl hm M_hL rfl ?_
      refine WX.s1 rfl rfl ?_
      refine WX.mald (c := 24) rfl hm M_hL (by decide) (by decide) (by decide) (by decide) (vp_in_nI (N := 24000) (by omega) (by decide)) ?_
      rw [nI_clamp (by omega), FA_AL 24 (by decide), hM.2.2.2 i (by omega)]
      refine WX.callC (vs := [.ref m, .int (nI (w0 / 256 ^ i % 256))]) rfl rfl rfl (Nat.le_of_ble_eq_true rfl) (M_hL.rcv hm) ?_
      refine m_sayL hm M_hL hFL hlen (fun h2 I2 A2 fr2 M_h2 fi2 fa2 hF2 => ?_)
      rw [Nat.mod_mod, List.append_assoc, ← leBy_succ] at hF2
      show WX _ _ _ 23 [(0, .ref m), (1, .int (nI i))] [] (n, s, h2)
      refine WX.s1 (L' := [(0, .ref m), (1, .int ((nI i) + 1))]) rfl rfl ?_
      rw [show ((nI i) + 1) = nI (i + 1) from nI_add i 1]
      refine WX.s1 rfl rfl ?_
      exact ih (i + 1) h2 I2 A2 (by omega) (FR_hL.ztr fr2) M_h2 (FI_IL.ztr fi2) (FA_AL.ztr fa2) hF2 ((fi2 38 (by decide)).trans K_IL_38)
  exact lp (c / 8) 0 h I AR (by omega) FR_h M_h FI_I FA_AR (by rw [show leBy w0 0 = [] from rfl, List.append_nil]; exact hF) K_I_38
set_option maxRecDepth 20000 in
theorem m_lastState {d n s : Nat} {h : Nat → aE} {m : Nat} {I : Nat → Int32} {AR : Nat → Nat → Int32} {LN : Nat → Int64} {tb N : Nat} {cc : Clm} (hm : m + 43 < n) (M_h : MAt h m I AR LN) (htb : tb < 3) (hc : ClOk cc N) (hN : 1 ≤ N) (hN2 : N ≤ 2667) (hR : RefT AR tb (some cc.1)) (hMo : MoM AR tb cc) (K_I_31 : I 31 = (nI N)) {Ψ : Option Value → aH → Prop} (kk : ∀ h' A', Fr h h' (inM m) → MAt h' m I A' LN → LaF AR A' tb → PlO A' tb cc.1 → Ψ (some (.int (nI (pF cc (N - 1))))) (n, s, h')) : WO (mM (d + 3)) 200 [.ref m, .int (nI tb)] (n, s, h) Ψ := by
  refine WO.of (Nat.le_of_ble_eq_true rfl) ?_
  have FR_h : Fr h h (inM m) := Fr.rf
  have FI_I : Fi I I (fun f => f = 40) := Fi.rf
  obtain ⟨hr1, hr2⟩ := id hR
  obtain ⟨hc1, hc2, hc3, hc4, hc5, hc6⟩ := id hc
  have hp9 : 2 ^ cc.1.1 ≤ 2 ^ 9 := Nat.pow_le_pow_right (by decide) hc2
  have hsy := hMo (N - 1) (by omega)
  have hsm := hc5 _ (getD_mem (show N - 1 < cc.2.1.length by omega))
  show WX (lk tX12_lastState) (mM (d + 2)) Ψ 0 [(0, .ref m), (1, .int (nI tb))] [] (n, s, h)
  refine WX.s1 rfl rfl ?_
  refine WX.mget rfl hm M_h rfl ?_
  refine WX.s1 rfl rfl ?_
  refine WX.mald (c := 10) rfl hm M_h (by decide) (by decide) (by decide) (by decide) (vp_in_nI (N := 3) (by omega) (by decide)) ?_
  rw [nI_clamp (by omega), hr1]
  refine WX.if_ rfl (fun c_6 => ?_) (fun c_6 => ?_)
  · skip
    have n_6 : ¬ cc.1.1 = 0 := fun zz_ => c_6 ((nI_eq (a := cc.1.1) (b := 0) (by omega) (by omega)).mpr zz_)
    refine WX.s1 rfl rfl ?_
    refine WX.s1 rfl rfl ?_
    refine WX.mget rfl hm M_h rfl ?_
    refine WX.s1 rfl rfl ?_
    refine WX.s1 rfl rfl ?_
    refine WX.s1 (S' := [.int (64 * (nI tb)), .ref (m + 9), .ref m]) rfl rfl ?_
    rw [show (64 * (nI tb)) = nI (64 * tb) from (Int32.ofNat_mul 64 tb).symm]
    refine WX.s1 rfl rfl ?_
    refine WX.s1 rfl rfl ?_
    refine WX.mget rfl hm M_h rfl ?_
    refine WX.s1 rfl rfl ?_
    refine WX.mald (c := 10) rfl hm M_h (by decide) (by decide) (by decide) (by decide) (vp_in_nI (N := 3) (by omega) (by decide)) ?_
    rw [nI_clamp (by omega), hr1]
    refine WX.s1 rfl rfl ?_
    refine WX.s1 rfl rfl ?_
    refine WX.s1 (S' := [.int (512 * (nI tb)), .int (nI cc.1.1), .int 64, .int (nI (64 * tb)), .ref (m + 9), .ref m]) rfl rfl ?_
    rw [show (512 * (nI tb)) = nI (512 * tb) from (Int32.ofNat_mul 512 tb).symm]
    refine WX.callC (vs := [.ref m, .ref (m + 9), .int (nI (64 * tb)), .int 64, .int (nI cc.1.1), .int (nI (512 * tb))]) rfl rfl rfl (Nat.le_of_ble_eq_true rfl) (M_h.rcv hm) ?_
    refine m_lay9 hm M_h (by omega) hc1 hc2 (by omega) hr2 hc3 (fun h1 A1 fr1 M_h1 _ hP fa1 => ?_)
    show WX _ _ _ 36 [(0, .ref m), (1, .int (nI tb))] [] (n, s, h1)
    refine WX.s1 rfl rfl ?_
    refine WX.s1 rfl rfl ?_
    refine WX.s1 rfl rfl ?_
    refine WX.s1 (S' := [.int (512 * (nI tb)), .ref m]) rfl rfl ?_
    rw [show (512 * (nI tb)) = nI (512 * tb) from (Int32.ofNat_mul 512 tb).symm]
    refine WX.s1 rfl rfl ?_
    refine WX.mget rfl hm M_h1 rfl ?_
    refine WX.s1 rfl rfl ?_
    refine WX.mald (c := 10) rfl hm M_h1 (by decide) (by decide) (by decide) (by decide) (vp_in_nI (N := 3) (by omega) (by decide)) ?_
    rw [nI_clamp (by omega), fa1.1 10 (by decide), hr1]
    refine WX.s1 rfl rfl ?_
    refine WX.mget rfl hm M_h1 rfl ?_
    refine WX.s1 rfl rfl ?_
    refine WX.s1 rfl rfl ?_
    refine WX.s1 (S' := [.int (8001 * (nI tb)), .ref (m + 21), .int (nI cc.1.1), .int (nI (512 * tb)), .ref m]) rfl rfl ?_
    rw [show (8001 * (nI tb)) = nI (8001 * tb) from (Int32.ofNat_mul 8001 tb).symm]
    refine WX.s1 rfl rfl ?_
    refine WX.mgetK (x := (nI N)) rfl hm M_h1 rfl K_I_31 ?_
    refine WX.s1 (S' := [.int ((nI (8001 * tb)) + (nI N)), .ref (m + 21), .int (nI cc.1.1), .int (nI (512 * tb)), .ref m]) rfl rfl ?_
    rw [show ((nI (8001 * tb)) + (nI N)) = nI (8001 * tb + N) from nI_add (8001 * tb) N]
    refine WX.s1 rfl rfl ?_
    refine WX.s1 (S' := [.int ((nI (8001 * tb + N)) - 1), .ref (m + 21), .int (nI cc.1.1), .int (nI (512 * tb)), .ref m]) rfl rfl ?_
    rw [nI_pm1 (by omega), show 8001 * tb + N - 1 = 8001 * tb + (N - 1) by omega]
    refine WX.mald (c := 21) rfl hm M_h1 (by decide) (by decide) (by decide) (by decide) (vp_in_nI (N := 24003) (by omega) (by decide)) ?_
    rw [nI_clamp (by omega), fa1.1 21 (by decide), hsy.1]
    refine WX.s1 rfl rfl ?_
    refine WX.callC (vs := [.ref m, .int (nI (512 * tb)), .int (nI cc.1.1), .int (nI (cc.2.1.getD (N - 1) 0)), .int 0]) rfl rfl rfl (Nat.le_of_ble_eq_true rfl) (M_h1.rcv hm) ?_
    refine m_lowest hm M_h1 hc1 hc2 (by omega) hc3 hP hsm.1 hsm.2 (Or.inl rfl) (fun p0 hp0 => ?_)
    obtain rfl := pf_lowE hc (by omega) hp0
    show WX _ _ _ 69 [(0, .ref m), (1, .int (nI tb))] [.int (nI (pF cc (N - 1)))] (n, s, h1)
    exact WX.ret1 rfl (kk h1 A1 fr1 M_h1 ⟨fa1.1, fun b q hb hq => fa1.2 b q hb (by omega)⟩ (Or.inr hP))
  · skip
    have n_6 : cc.1.1 = 0 := (nI_eq (a := cc.1.1) (b := 0) (by omega) (by omega)).mp (Classical.not_not.mp c_6)
    refine WX.s1 rfl rfl ?_
    have hp0 : pF cc (N - 1) = 0 := by have q := (pf_row hc (show N - 1 < N by omega)).2; rw [n_6] at q; exact Nat.lt_one_iff.mp q
    have h9 := kk h AR FR_h M_h ⟨FaS.rf, fun _ _ _ _ => rfl⟩ (Or.inl n_6)
    rw [hp0] at h9
    exact WX.ret1 rfl h9
set_option maxRecDepth 20000 in
theorem m_putState {d n s : Nat} {h : Nat → aE} {m : Nat} {I : Nat → Int32} {AR : Nat → Nat → Int32} {LN : Nat → Int64} {tb N i : Nat} {cc : Clm} {b : Nat × Nat} (hm : m + 43 < n) (M_h : MAt h m I AR LN) (htb : tb < 3) (hc : ClOk cc N) (hN : 1 ≤ N) (hN2 : N ≤ 2667) (hR : RefT AR tb (some cc.1)) (hMo : MoM AR tb cc) (hP : PlO AR tb cc.1) (hi : i + 1 < N) (hM : MadeIs I AR b.1 b.2) (hb : b.1 + 9 ≤ 192000)  {Ψ : Option Value → aH → Prop} (kk : ∀ h' I' A', Fr h h' (inM m) → MAt h' m I' A' LN → Fi I I' (fun f => f = 38) → Fa AR A' 24 → MadeIs I' A' (stB cc i b).1 (stB cc i b).2 → Ψ (some (.int (nI (pF cc i)))) (n, s, h')) : WO (mM (d + 2)) 199 [.ref m, .int (nI tb), .int (nI i), .int (nI (pF cc (i + 1)))] (n, s, h) Ψ := by
  refine WO.of (Nat.le_of_ble_eq_true rfl) ?_
  have FR_h : Fr h h (inM m) := Fr.rf
  have FI_I : Fi I I (fun f => f = 38) := Fi.rf
  obtain ⟨hr1, hr2⟩ := id hR
  obtain ⟨hc1, hc2, hc3, hc4, hc5, hc6⟩ := id hc
  have hp9 : 2 ^ cc.1.1 ≤ 2 ^ 9 := Nat.pow_le_pow_right (by decide) hc2
  have hsy := hMo i (by omega)
  have hsm := hc5 _ (getD_mem (show i < cc.2.1.length by omega))
  have hst := (pf_row hc hi).2
  have hpi := (pf_row hc (show i < N by omega)).2
  have hvl := vf_le hc hi
  show WX (lk tX12_putState) (mM (d + 1)) Ψ 0 [(0, .ref m), (1, .int (nI tb)), (2, .int (nI i)), (3, .int (nI (pF cc (i + 1))))] [] (n, s, h)
  refine WX.s1 rfl rfl ?_
  refine WX.mget rfl hm M_h rfl ?_
  refine WX.s1 rfl rfl ?_
  refine WX.mald (c := 10) rfl hm M_h (by decide) (by decide) (by decide) (by decide) (vp_in_nI (N := 3) (by omega) (by decide)) ?_
  rw [nI_clamp (by omega), hr1]
  refine WX.if_ rfl (fun c_6 => ?_) (fun c_6 => ?_)
  · skip
    have n_6 : ¬ cc.1.1 = 0 := fun zz_ => c_6 ((nI_eq (a := cc.1.1) (b := 0) (by omega) (by omega)).mpr zz_)
    refine WX.s1 rfl rfl ?_
    refine WX.s1 rfl rfl ?_
    refine WX.s1 rfl rfl ?_
    refine WX.s1 (S' := [.int (512 * (nI tb)), .ref m]) rfl rfl ?_
    rw [show (512 * (nI tb)) = nI (512 * tb) from (Int32.ofNat_mul 512 tb).symm]
    refine WX.s1 rfl rfl ?_
    refine WX.mget rfl hm M_h rfl ?_
    refine WX.s1 rfl rfl ?_
    refine WX.mald (c := 10) rfl hm M_h (by decide) (by decide) (by decide) (by decide) (vp_in_nI (N := 3) (by omega) (by decide)) ?_
    rw [nI_clamp (by omega), hr1]
    refine WX.s1 rfl rfl ?_
    refine WX.mget rfl hm M_h rfl ?_
    refine WX.s1 rfl rfl ?_
    refine WX.s1 rfl rfl ?_
    refine WX.s1 (S' := [.int (8001 * (nI tb)), .ref (m + 21), .int (nI cc.1.1), .int (nI (512 * tb)), .ref m]) rfl rfl ?_
    rw [show (8001 * (nI tb)) = nI (8001 * tb) from (Int32.ofNat_mul 8001 tb).symm]
    refine WX.s1 rfl rfl ?_
    refine WX.s1 (S' := [.int ((nI (8001 * tb)) + (nI i)), .ref (m + 21), .int (nI cc.1.1), .int (nI (512 * tb)), .ref m]) rfl rfl ?_
    rw [show ((nI (8001 * tb)) + (nI i)) = nI (8001 * tb + i) from nI_add (8001 * tb) i]
    refine WX.mald (c := 21) rfl hm M_h (by decide) (by decide) (by decide) (by decide) (vp_in_nI (N := 24003) (by omega) (by decide)) ?_
    rw [nI_clamp (by omega), hsy.1]
    refine WX.s1 rfl rfl ?_
    have hPl : PlA AR (512 * tb) cc.1.1 64 cc.1.2 := by rcases hP with z | z; exact absurd z n_6; exact z
    refine WX.callC (vs := [.ref m, .int (nI (512 * tb)), .int (nI cc.1.1), .int (nI (cc.2.1.getD i 0)), .int (nI (pF cc (i + 1)))]) rfl rfl rfl (Nat.le_of_ble_eq_true rfl) (M_h.rcv hm) ?_
    refine m_leading hm M_h hc1 hc2 (by omega) hc3 hPl hsm.1 hsm.2 hst (fun p2 V hN h27 h28 => ?_)
    obtain ⟨rfl, rfl⟩ := pf_nxE hc hi hN
    have hmd : (pF cc (i + 1)) % 2 ^ (vF cc i) ≤ (pF cc (i + 1)) := Nat.mod_le _ _
    show WX _ _ _ 39 [(0, .ref m), (1, .int (nI tb)), (2, .int (nI i)), (3, .int (nI (pF cc (i + 1))))] [.int (nI (pF cc i))] (n, s, h)
    refine WX.s1 (L' := [(0, .ref m), (1, .int (nI tb)), (2, .int (nI i)), (3, .int (nI (pF cc (i + 1)))), (4, .int (nI (pF cc i)))]) rfl rfl ?_
    refine WX.s1 rfl rfl ?_
    refine WX.s1 rfl rfl ?_
    refine WX.s1 rfl rfl ?_
    refine WX.mget rfl hm M_h rfl ?_
    refine WX.s1 rfl rfl ?_
    refine WX.s1 rfl rfl ?_
    refine WX.s1 (S' := [.int (512 * (nI tb)), .ref (m + 28), .int (nI (pF cc (i + 1))), .ref m]) rfl rfl ?_
    rw [show (512 * (nI tb)) = nI (512 * tb) from (Int32.ofNat_mul 512 tb).symm]
    refine WX.s1 rfl rfl ?_
    refine WX.s1 (S' := [.int ((nI (512 * tb)) + (nI (pF cc i))), .ref (m + 28), .int (nI (pF cc (i + 1))), .ref m]) rfl rfl ?_
    rw [show ((nI (512 * tb)) + (nI (pF cc i))) = nI (512 * tb + pF cc i) from nI_add (512 * tb) (pF cc i)]
    refine WX.mald (c := 28) rfl hm M_h (by decide) (by decide) (by decide) (by decide) (vp_in_nI (N := 2048) (by omega) (by decide)) ?_
    rw [nI_clamp (by omega), h28]
    refine WX.s1 (S' := [.int ((nI (pF cc (i + 1))) - (nI ((pF cc (i + 1)) - (pF cc (i + 1)) % 2 ^ (vF cc i)))), .ref m]) rfl rfl ?_
    rw [nI_subN (Nat.sub_le _ _), show (pF cc (i + 1)) - ((pF cc (i + 1)) - (pF cc (i + 1)) % 2 ^ (vF cc i)) = (pF cc (i + 1)) % 2 ^ (vF cc i) by omega]
    refine WX.s1 rfl rfl ?_
    refine WX.mget rfl hm M_h rfl ?_
    refine WX.s1 rfl rfl ?_
    refine WX.s1 rfl rfl ?_
    refine WX.s1 (S' := [.int (512 * (nI tb)), .ref (m + 27), .int (nI ((pF cc (i + 1)) % 2 ^ (vF cc i))), .ref m]) rfl rfl ?_
    rw [show (512 * (nI tb)) = nI (512 * tb) from (Int32.ofNat_mul 512 tb).symm]
    refine WX.s1 rfl rfl ?_
    refine WX.s1 (S' := [.int ((nI (512 * tb)) + (nI (pF cc i))), .ref (m + 27), .int (nI ((pF cc (i + 1)) % 2 ^ (vF cc i))), .ref m]) rfl rfl ?_
    rw [show ((nI (512 * tb)) + (nI (pF cc i))) = nI (512 * tb + pF cc i) from nI_add (512 * tb) (pF cc i)]
    refine WX.mald (c := 27) rfl hm M_h (by decide) (by decide) (by decide) (by decide) (vp_in_nI (N := 2048) (by omega) (by decide)) ?_
    rw [nI_clamp (by omega), h27]
    refine WX.callC (vs := [.ref m, .int (nI ((pF cc (i + 1)) % 2 ^ (vF cc i))), .int (nI (vF cc i))]) rfl rfl rfl (Nat.le_of_ble_eq_true rfl) (M_h.rcv hm) ?_
    refine m_putV hm M_h hM (by omega) (by omega) (by omega) (fun h1 I1 A1 fr1 M_h1 fi1 fa1 hM1 => ?_)
    rw [Nat.mod_mod] at hM1
    show WX _ _ _ 73 [(0, .ref m), (1, .int (nI tb)), (2, .int (nI i)), (3, .int (nI (pF cc (i + 1)))), (4, .int (nI (pF cc i)))] [] (n, s, h1)
    refine WX.s1 rfl rfl ?_
    exact WX.ret1 rfl (kk h1 I1 A1 fr1 M_h1 fi1 fa1 hM1)
  · skip
    have n_6 : cc.1.1 = 0 := (nI_eq (a := cc.1.1) (b := 0) (by omega) (by omega)).mp (Classical.not_not.mp c_6)
    refine WX.s1 rfl rfl ?_
    rw [n_6] at hpi hvl
    have hp0 : pF cc i = 0 := Nat.lt_one_iff.mp hpi
    have hs0 : stB cc i b = b := by show addB _ _ _ = _; rw [Nat.le_zero.mp hvl]; exact addB_0 _ _
    have h9 := kk h I AR FR_h M_h FI_I Fa.rf (by rw [hs0]; exact hM)
    rw [hp0] at h9
    exact WX.ret1 rfl h9
set_option maxRecDepth 20000 in
theorem m_putMore {d n s : Nat} {h : Nat → aE} {m : Nat} {I : Nat → Int32} {AR : Nat → Nat → Int32} {LN : Nat → Int64} {tb N i : Nat} {cc : Clm} {b : Nat × Nat} (hm : m + 43 < n) (M_h : MAt h m I AR LN) (htb : tb < 3) (hc : ClOk cc N) (hN2 : N ≤ 2667) (hMo : MoM AR tb cc) (hi : i < N) (hM : MadeIs I AR b.1 b.2) (hb : b.1 + 13 ≤ 192000)  {Ψ : Option Value → aH → Prop} (kk : ∀ h' I' A', Fr h h' (inM m) → MAt h' m I' A' LN → Fi I I' (fun f => f = 38) → Fa AR A' 24 → MadeIs I' A' (addB b (cc.2.2.1 i) (cc.2.2.2 i)).1 (addB b (cc.2.2.1 i) (cc.2.2.2 i)).2 → Ψ none (n, s, h')) : WO (mM (d + 2)) 197 [.ref m, .int (nI tb), .int (nI i)] (n, s, h) Ψ := by
  refine WO.of (Nat.le_of_ble_eq_true rfl) ?_
  have FR_h : Fr h h (inM m) := Fr.rf
  have FI_I : Fi I I (fun f => f = 38) := Fi.rf
  obtain ⟨hc1, hc2, hc3, hc4, hc5, hc6⟩ := id hc
  have hsy := hMo i (by omega)
  obtain ⟨hx1, hx2⟩ := hc6 i hi
  show WX (lk tX12_putMore) (mM (d + 1)) Ψ 0 [(0, .ref m), (1, .int (nI tb)), (2, .int (nI i))] [] (n, s, h)
  refine WX.s1 rfl rfl ?_
  refine WX.s1 rfl rfl ?_
  refine WX.mget rfl hm M_h rfl ?_
  refine WX.s1 rfl rfl ?_
  refine WX.s1 rfl rfl ?_
  refine WX.s1 (S' := [.int (8001 * (nI tb)), .ref (m + 23), .ref m]) rfl rfl ?_
  rw [show (8001 * (nI tb)) = nI (8001 * tb) from (Int32.ofNat_mul 8001 tb).symm]
  refine WX.s1 rfl rfl ?_
  refine WX.s1 (S' := [.int ((nI (8001 * tb)) + (nI i)), .ref (m + 23), .ref m]) rfl rfl ?_
  rw [show ((nI (8001 * tb)) + (nI i)) = nI (8001 * tb + i) from nI_add (8001 * tb) i]
  refine WX.mald (c := 23) rfl hm M_h (by decide) (by decide) (by decide) (by decide) (vp_in_nI (N := 24003) (by omega) (by decide)) ?_
  rw [nI_clamp (by omega), hsy.2.2]
  refine WX.s1 rfl rfl ?_
  refine WX.mget rfl hm M_h rfl ?_
  refine WX.s1 rfl rfl ?_
  refine WX.s1 rfl rfl ?_
  refine WX.s1 (S' := [.int (8001 * (nI tb)), .ref (m + 22), .int (nI (cc.2.2.1 i)), .ref m]) rfl rfl ?_
  rw [show (8001 * (nI tb)) = nI (8001 * tb) from (Int32.ofNat_mul 8001 tb).symm]
  refine WX.s1 rfl rfl ?_
  refine WX.s1 (S' := [.int ((nI (8001 * tb)) + (nI i)), .ref (m + 22), .int (nI (cc.2.2.1 i)), .ref m]) rfl rfl ?_
  rw [show ((nI (8001 * tb)) + (nI i)) = nI (8001 * tb + i) from nI_add (8001 * tb) i]
  refine WX.mald (c := 22) rfl hm M_h (by decide) (by decide) (by decide) (by decide) (vp_in_nI (N := 24003) (by omega) (by decide)) ?_
  rw [nI_clamp (by omega), hsy.2.1]
  refine WX.callC (vs := [.ref m, .int (nI (cc.2.2.1 i)), .int (nI (cc.2.2.2 i))]) rfl rfl rfl (Nat.le_of_ble_eq_true rfl) (M_h.rcv hm) ?_
  refine m_putV hm M_h hM hx1 (by omega) (by omega) (fun h1 I1 A1 fr1 M_h1 fi1 fa1 hM1 => ?_)
  exact WX.ret0 rfl (kk h1 I1 A1 fr1 M_h1 fi1 fa1 hM1)
set_option maxRecDepth 20000 in
theorem m_putAll {d n s : Nat} {h : Nat → aE} {m : Nat} {I : Nat → Int32} {AR : Nat → Nat → Int32} {LN : Nat → Int64} {N i : Nat} {c0 c1 c2 : Clm} {b : Nat × Nat} (hm : m + 43 < n) (M_h : MAt h m I AR LN) (h0 : ClOk c0 N) (h1 : ClOk c1 N) (h2 : ClOk c2 N) (hN2 : N ≤ 2667) (hM0 : MoM AR 0 c0) (hM1 : MoM AR 1 c1) (hM2 : MoM AR 2 c2) (hi : i < N) (hM : MadeIs I AR b.1 b.2) (hb : b.1 + 39 ≤ 192000)  {Ψ : Option Value → aH → Prop} (kk : ∀ h' I' A', Fr h h' (inM m) → MAt h' m I' A' LN → Fi I I' (fun f => f = 38) → Fa AR A' 24 → MadeIs I' A' (adB c0 c1 c2 i b).1 (adB c0 c1 c2 i b).2 → Ψ none (n, s, h')) : WO (mM (d + 3)) 198 [.ref m, .int (nI i)] (n, s, h) Ψ := by
  refine WO.of (Nat.le_of_ble_eq_true rfl) ?_
  have FR_h : Fr h h (inM m) := Fr.rf
  have FI_I : Fi I I (fun f => f = 38) := Fi.rf
  have FA_AR : Fa AR AR 24 := Fa.rf
  have x0 := (h0.2.2.2.2.2 i hi).2
  have x1 := (h1.2.2.2.2.2 i hi).2
  have x2 := (h2.2.2.2.2.2 i hi).2
  show WX (lk tX12_putAllMore) (mM (d + 2)) Ψ 0 [(0, .ref m), (1, .int (nI i))] [] (n, s, h)
  refine WX.s1 rfl rfl ?_
  refine WX.s1 rfl rfl ?_
  refine WX.s1 rfl rfl ?_
  refine WX.callC (vs := [.ref m, .int (nI 0), .int (nI i)]) rfl rfl rfl (Nat.le_of_ble_eq_true rfl) (M_h.rcv hm) ?_
  refine m_putMore (b := b) hm M_h (by decide) h0 hN2 (hM0) hi hM (by have q : (b).1 ≤ b.1 + 0 := Nat.le_refl _; omega) (fun h_3 I_3 A_3 fr3 M_h_3 fi3 fa3 R3 => ?_)
  have FR_h_3 := FR_h.ztr fr3
  have FI_I_3 : Fi I I_3 (fun f => f = 38) := FI_I.ztr fi3
  have FA_A_3 : Fa AR A_3 24 := FA_AR.ztr fa3
  show WX _ _ _ 6 [(0, .ref m), (1, .int (nI i))] [] (n, s, h_3)
  refine WX.s1 rfl rfl ?_
  refine WX.s1 rfl rfl ?_
  refine WX.s1 rfl rfl ?_
  refine WX.callC (vs := [.ref m, .int (nI 2), .int (nI i)]) rfl rfl rfl (Nat.le_of_ble_eq_true rfl) (M_h_3.rcv hm) ?_
  refine m_putMore (b := (addB b (c0.2.2.1 i) (c0.2.2.2 i))) hm M_h_3 (by decide) h2 hN2 (hM2.fa (FA_A_3 21 (by decide)) (FA_A_3 22 (by decide)) (FA_A_3 23 (by decide))) hi R3 (by have q : ((addB b (c0.2.2.1 i) (c0.2.2.2 i))).1 ≤ b.1 + 13 := (by show b.1 + _ ≤ _; omega); omega) (fun h_9 I_9 A_9 fr9 M_h_9 fi9 fa9 R9 => ?_)
  have FR_h_9 := FR_h_3.ztr fr9
  have FI_I_9 : Fi I I_9 (fun f => f = 38) := FI_I_3.ztr fi9
  have FA_A_9 : Fa AR A_9 24 := FA_A_3.ztr fa9
  show WX _ _ _ 12 [(0, .ref m), (1, .int (nI i))] [] (n, s, h_9)
  refine WX.s1 rfl rfl ?_
  refine WX.s1 rfl rfl ?_
  refine WX.s1 rfl rfl ?_
  refine WX.callC (vs := [.ref m, .int (nI 1), .int (nI i)]) rfl rfl rfl (Nat.le_of_ble_eq_true rfl) (M_h_9.rcv hm) ?_
  refine m_putMore (b := (addB (addB b (c0.2.2.1 i) (c0.2.2.2 i)) (c2.2.2.1 i) (c2.2.2.2 i))) hm M_h_9 (by decide) h1 hN2 (hM1.fa (FA_A_9 21 (by decide)) (FA_A_9 22 (by decide)) (FA_A_9 23 (by decide))) hi R9 (by have q : ((addB (addB b (c0.2.2.1 i) (c0.2.2.2 i)) (c2.2.2.1 i) (c2.2.2.2 i))).1 ≤ b.1 + 26 := (by show b.1 + _ + _ ≤ _; omega); omega) (fun h_15 I_15 A_15 fr15 M_h_15 fi15 fa15 R15 => ?_)
  have FR_h_15 := FR_h_9.ztr fr15
  have FI_I_15 : Fi I I_15 (fun f => f = 38) := FI_I_9.ztr fi15
  have FA_A_15 : Fa AR A_15 24 := FA_A_9.ztr fa15
  exact WX.ret0 rfl (kk h_15 I_15 A_15 FR_h_15 M_h_15 FI_I_15 FA_A_15 R15)
set_option maxRecDepth 20000 in
theorem m_sayStream {d n s : Nat} {h : Nat → aE} {m : Nat} {I : Nat → Int32} {AR : Nat → Nat → Int32} {LN : Nat → Int64} {N k0 w0 : Nat} {c0 c1 c2 : Clm} {l : List Nat} (hm : m + 43 < n) (M_h : MAt h m I AR LN) (h0 : ClOk c0 N) (h1 : ClOk c1 N) (h2 : ClOk c2 N) (hN : 1 ≤ N) (hN2 : N ≤ 2667) (hM0 : MoM AR 0 c0) (hM1 : MoM AR 1 c1) (hM2 : MoM AR 2 c2) (hR0 : RefT AR 0 (some c0.1)) (hR1 : RefT AR 1 (some c1.1)) (hR2 : RefT AR 2 (some c2.1)) (hM : MadeIs I AR k0 w0) (hF : FrameIs I AR l) (hl : l.length < 2 ^ 28) (K_I_31 : I 31 = (nI N)) {Ψ : Option Value → aH → Prop} (kk : ∀ h' I' A' c w, Fr h h' (inM m) → MAt h' m I' A' LN → Fi I I' (fun f => f = 38 ∨ f = 40) → FaS AR A' (fun b => b = 24 ∨ b = 25 ∨ b = 26 ∨ b = 27 ∨ b = 28 ∨ b = 29) → MadeIs I' A' c w → FrameIs I' A' (l ++ seqY c0 c1 c2 N) → Ψ none (n, s, h')) : WO (mM (d + 4)) 201 [.ref m] (n, s, h) Ψ := by
  refine WO.of (Nat.le_of_ble_eq_true rfl) ?_
  have FR_h : Fr h h (inM m) := Fr.rf
  have FI_I : Fi I I (fun f => f = 38) := Fi.rf
  have FA_AR : FaS AR AR (fun b => b = 24 ∨ b = 26 ∨ b = 27 ∨ b = 28 ∨ b = 29) := FaS.rf
  have o0 := h0.2.1
  have o1 := h1.2.1
  have o2 := h2.2.1
  show WX (lk tX12_sayStream) (mM (d + 3)) Ψ 0 [(0, .ref m)] [] (n, s, h)
  refine WX.s1 rfl rfl ?_
  refine WX.callC (vs := [.ref m]) rfl rfl rfl (Nat.le_of_ble_eq_true rfl) (M_h.rcv hm) ?_
  refine m_beginV hm M_h hM (fun h1n1 I1n1 A1n1 fr1n1 M_h1n1 fi1n1 fa1n1 hB => ?_)
  have FR_h1n1 := FR_h.ztr fr1n1
  have K_I1n1_31 : I1n1 31 = (nI N) := (fi1n1 31 (by decide)).trans K_I_31
  have FI_I1n1 : Fi I I1n1 (fun f => f = 38) := FI_I.zsub fi1n1 (fun j hj => by first | exact hj | omega)
  have FA_A1n1 : FaS AR A1n1 (fun b => b = 24 ∨ b = 26 ∨ b = 27 ∨ b = 28 ∨ b = 29) := FA_AR.ztr (fa1n1.toS (by omega))
  show WX _ _ _ 4 [(0, .ref m)] [] (n, s, h1n1)
  refine WX.s1 rfl rfl ?_
  refine WX.s1 rfl rfl ?_
  refine WX.callC (vs := [.ref m, .int (nI 0)]) rfl rfl rfl (Nat.le_of_ble_eq_true rfl) (M_h1n1.rcv hm) ?_
  refine m_lastState hm M_h1n1 (by decide) h0 hN hN2 (hR0.fa (FA_A1n1 10 (by decide)) (FA_A1n1 9 (by decide))) (hM0.fa (FA_A1n1 21 (by decide)) (FA_A1n1 22 (by decide)) (FA_A1n1 23 (by decide))) K_I1n1_31 (fun h6n2 A6n2 fr6n2 M_h6n2 lf6n2 pl0 => ?_)
  have FR_h6n2 := FR_h1n1.ztr fr6n2
  have FA_A6n2 : FaS AR A6n2 (fun b => b = 24 ∨ b = 26 ∨ b = 27 ∨ b = 28 ∨ b = 29) := FA_A1n1.ztr (lf6n2.1.mono (fun x hx => by omega))
  have hB0 := hB.mv (lf6n2.1 24 (by decide))
  show WX _ _ _ 9 [(0, .ref m)] [.int (nI (pF c0 (N - 1)))] (n, s, h6n2)
  refine WX.s1 (L' := [(0, .ref m), (1, .int (nI (pF c0 (N - 1))))]) rfl rfl ?_
  refine WX.s1 rfl rfl ?_
  refine WX.s1 rfl rfl ?_
  refine WX.callC (vs := [.ref m, .int (nI 1)]) rfl rfl rfl (Nat.le_of_ble_eq_true rfl) (M_h6n2.rcv hm) ?_
  refine m_lastState hm M_h6n2 (by decide) h1 hN hN2 (hR1.fa (FA_A6n2 10 (by decide)) (FA_A6n2 9 (by decide))) (hM1.fa (FA_A6n2 21 (by decide)) (FA_A6n2 22 (by decide)) (FA_A6n2 23 (by decide))) K_I1n1_31 (fun h12n3 A12n3 fr12n3 M_h12n3 lf12n3 pl1 => ?_)
  have FR_h12n3 := FR_h6n2.ztr fr12n3
  have FA_A12n3 : FaS AR A12n3 (fun b => b = 24 ∨ b = 26 ∨ b = 27 ∨ b = 28 ∨ b = 29) := FA_A6n2.ztr (lf12n3.1.mono (fun x hx => by omega))
  have hB1 := hB0.mv (lf12n3.1 24 (by decide))
  have pl0b := pl0.mv lf12n3 (by decide) o0
  show WX _ _ _ 15 [(0, .ref m), (1, .int (nI (pF c0 (N - 1))))] [.int (nI (pF c1 (N - 1)))] (n, s, h12n3)
  refine WX.s1 (L' := [(0, .ref m), (1, .int (nI (pF c0 (N - 1)))), (2, .int (nI (pF c1 (N - 1))))]) rfl rfl ?_
  refine WX.s1 rfl rfl ?_
  refine WX.s1 rfl rfl ?_
  refine WX.callC (vs := [.ref m, .int (nI 2)]) rfl rfl rfl (Nat.le_of_ble_eq_true rfl) (M_h12n3.rcv hm) ?_
  refine m_lastState hm M_h12n3 (by decide) h2 hN hN2 (hR2.fa (FA_A12n3 10 (by decide)) (FA_A12n3 9 (by decide))) (hM2.fa (FA_A12n3 21 (by decide)) (FA_A12n3 22 (by decide)) (FA_A12n3 23 (by decide))) K_I1n1_31 (fun h18n4 A18n4 fr18n4 M_h18n4 lf18n4 pl2 => ?_)
  have FR_h18n4 := FR_h12n3.ztr fr18n4
  have FA_A18n4 : FaS AR A18n4 (fun b => b = 24 ∨ b = 26 ∨ b = 27 ∨ b = 28 ∨ b = 29) := FA_A12n3.ztr (lf18n4.1.mono (fun x hx => by omega))
  have hB2 := hB1.mv (lf18n4.1 24 (by decide))
  have pl0c := pl0b.mv lf18n4 (by decide) o0
  have pl1c := pl1.mv lf18n4 (by decide) o1
  show WX _ _ _ 21 [(0, .ref m), (1, .int (nI (pF c0 (N - 1)))), (2, .int (nI (pF c1 (N - 1))))] [.int (nI (pF c2 (N - 1)))] (n, s, h18n4)
  refine WX.s1 (L' := [(0, .ref m), (1, .int (nI (pF c0 (N - 1)))), (2, .int (nI (pF c1 (N - 1)))), (3, .int (nI (pF c2 (N - 1))))]) rfl rfl ?_
  refine WX.s1 rfl rfl ?_
  refine WX.s1 rfl rfl ?_
  refine WX.mgetK (x := (nI N)) rfl hm M_h18n4 rfl K_I1n1_31 ?_
  refine WX.s1 rfl rfl ?_
  refine WX.s1 (S' := [.int ((nI N) - 1), .ref m]) rfl rfl ?_
  rw [nI_pm1 (by omega)]
  refine WX.callC (vs := [.ref m, .int (nI (N - 1))]) rfl rfl rfl (Nat.le_of_ble_eq_true rfl) (M_h18n4.rcv hm) ?_
  refine m_putAll hm M_h18n4 h0 h1 h2 hN2 (hM0.fa (FA_A18n4 21 (by decide)) (FA_A18n4 22 (by decide)) (FA_A18n4 23 (by decide))) (hM1.fa (FA_A18n4 21 (by decide)) (FA_A18n4 22 (by decide)) (FA_A18n4 23 (by decide))) (hM2.fa (FA_A18n4 21 (by decide)) (FA_A18n4 22 (by decide)) (FA_A18n4 23 (by decide))) (by omega) (b := (0, 0)) hB2 (by decide) (fun h29n5 I29n5 A29n5 fr29n5 M_h29n5 fi29n5 fa29n5 hA0 => ?_)
  have FR_h29n5 := FR_h18n4.ztr fr29n5
  have K_I29n5_31 : I29n5 31 = (nI N) := (fi29n5 31 (by decide)).trans K_I1n1_31
  have FI_I29n5 : Fi I I29n5 (fun f => f = 38) := FI_I1n1.zsub fi29n5 (fun j hj => by first | exact hj | omega)
  have FA_A29n5 : FaS AR A29n5 (fun b => b = 24 ∨ b = 26 ∨ b = 27 ∨ b = 28 ∨ b = 29) := FA_A18n4.ztr (fa29n5.toS (by omega))
  have pl0d := pl0c.fa (fa29n5 26 (by decide)) (fa29n5 27 (by decide)) (fa29n5 28 (by decide))
  have pl1d := pl1c.fa (fa29n5 26 (by decide)) (fa29n5 27 (by decide)) (fa29n5 28 (by decide))
  have pl2d := pl2.fa (fa29n5 26 (by decide)) (fa29n5 27 (by decide)) (fa29n5 28 (by decide))
  show WX _ _ _ 32 [(0, .ref m), (1, .int (nI (pF c0 (N - 1)))), (2, .int (nI (pF c1 (N - 1)))), (3, .int (nI (pF c2 (N - 1))))] [] (n, s, h29n5)
  refine WX.s1 rfl rfl ?_
  refine WX.mgetK (x := (nI N)) rfl hm M_h29n5 rfl K_I29n5_31 ?_
  refine WX.s1 rfl rfl ?_
  refine WX.s1 (S' := [.int ((nI N) - 2)]) rfl rfl ?_
  rw [nI_m2 hN]
  refine WX.s1 (L' := [(0, .ref m), (1, .int (nI (pF c0 (N - 1)))), (2, .int (nI (pF c1 (N - 1)))), (3, .int (nI (pF c2 (N - 1)))), (4, .int (qI (N - 1)))]) rfl rfl ?_
  have lp : ∀ (z : Nat) (b : Nat × Nat) (hL : Nat → aE) (IL : Nat → Int32) (AL : Nat → Nat → Int32), z < N → b.1 ≤ 66 * (N - z) → seE c0 c1 c2 (seL c0 c1 c2 z b) = seqB c0 c1 c2 N → Fr h hL (inM m) → MAt hL m IL AL LN → Fi I IL (fun f => f = 38) → FaS AR AL (fun b => b = 24 ∨ b = 26 ∨ b = 27 ∨ b = 28 ∨ b = 29) → MadeIs IL AL b.1 b.2 → PlO AL 0 c0.1 → PlO AL 1 c1.1 → PlO AL 2 c2.1 → WX (lk tX12_sayStream) (mM (d + 3)) Ψ 40 [(0, .ref m), (1, .int (nI (pF c0 z))), (2, .int (nI (pF c1 z))), (3, .int (nI (pF c2 z))), (4, .int (qI z))] [] (n, s, hL) := by
    clear M_h29n5 FR_h29n5 FI_I29n5 FA_A29n5 hA0 pl0d pl1d pl2d
    intro z
    induction z with
    | zero =>
      intro b hL IL AL hz hb hE FR_hL M_hL FI_IL FA_AL hML q0 q1 q2
      rw [qI0]
      have e0 := (pf_row h0 (show 0 < N by omega)).2
      have e1 := (pf_row h1 (show 0 < N by omega)).2
      have e2 := (pf_row h2 (show 0 < N by omega)).2
      have p90 : 2 ^ c0.1.1 ≤ 2 ^ 9 := Nat.pow_le_pow_right (by decide) o0
      have p91 : 2 ^ c1.1.1 ≤ 2 ^ 9 := Nat.pow_le_pow_right (by decide) o1
      have p92 : 2 ^ c2.1.1 ≤ 2 ^ 9 := Nat.pow_le_pow_right (by decide) o2
      refine WX.s1 rfl rfl ?_
      refine WX.if_ rfl (fun c_42 => ?_) (fun c_42 => absurd (by decide) c_42)
      refine WX.s1 rfl rfl ?_
      refine WX.s1 rfl rfl ?_
      refine WX.s1 rfl rfl ?_
      refine WX.mget rfl hm M_hL rfl ?_
      refine WX.s1 rfl rfl ?_
      refine WX.mald (c := 10) rfl hm M_hL (by decide) (by decide) (by decide) (by decide) (by unfold vp_in; decide) ?_
      rw [show AL 10 (Int32.toNatClampNeg 2) = nI c2.1.1 from (hR2.fa (FA_AL 10 (by decide)) (FA_AL 9 (by decide))).1]
      refine WX.callC (vs := [.ref m, .int (nI (pF c2 0)), .int (nI c2.1.1)]) rfl rfl rfl (Nat.le_of_ble_eq_true rfl) (M_hL.rcv hm) ?_
      refine m_putV hm M_hL (c := b.1) (w := b.2) hML (by omega) (by omega) (by have q : b.1 ≤ b.1 + 0 := (by exact Nat.le_refl _); omega) (fun h92n101 I92n101 A92n101 fr92n101 M_h92n101 fi92n101 fa92n101 hE1 => ?_)
      have FR_h92n101 := FR_hL.ztr fr92n101
      have FI_I92n101 : Fi I I92n101 (fun f => f = 38) := FI_IL.zsub fi92n101 (fun j hj => by first | exact hj | omega)
      have FA_A92n101 : FaS AR A92n101 (fun b => b = 24 ∨ b = 26 ∨ b = 27 ∨ b = 28 ∨ b = 29) := FA_AL.ztr (fa92n101.toS (by omega))
      show WX _ _ _ 95 [(0, .ref m), (1, .int (nI (pF c0 0))), (2, .int (nI (pF c1 0))), (3, .int (nI (pF c2 0))), (4, .int (-1))] [] (n, s, h92n101)
      refine WX.s1 rfl rfl ?_
      refine WX.s1 rfl rfl ?_
      refine WX.s1 rfl rfl ?_
      refine WX.mget rfl hm M_h92n101 rfl ?_
      refine WX.s1 rfl rfl ?_
      refine WX.mald (c := 10) rfl hm M_h92n101 (by decide) (by decide) (by decide) (by decide) (by unfold vp_in; decide) ?_
      rw [show A92n101 10 (Int32.toNatClampNeg 1) = nI c1.1.1 from (hR1.fa (FA_A92n101 10 (by decide)) (FA_A92n101 9 (by decide))).1]
      refine WX.callC (vs := [.ref m, .int (nI (pF c1 0)), .int (nI c1.1.1)]) rfl rfl rfl (Nat.le_of_ble_eq_true rfl) (M_h92n101.rcv hm) ?_
      refine m_putV hm M_h92n101 (c := (addB b (pF c2 0) c2.1.1).1) (w := (addB b (pF c2 0) c2.1.1).2) hE1 (by omega) (by omega) (by have q : (addB b (pF c2 0) c2.1.1).1 ≤ b.1 + 9 := (by show b.1 + _ ≤ _; omega); omega) (fun h103n102 I103n102 A103n102 fr103n102 M_h103n102 fi103n102 fa103n102 hE2 => ?_)
      have FR_h103n102 := FR_h92n101.ztr fr103n102
      have FI_I103n102 : Fi I I103n102 (fun f => f = 38) := FI_I92n101.zsub fi103n102 (fun j hj => by first | exact hj | omega)
      have FA_A103n102 : FaS AR A103n102 (fun b => b = 24 ∨ b = 26 ∨ b = 27 ∨ b = 28 ∨ b = 29) := FA_A92n101.ztr (fa103n102.toS (by omega))
      show WX _ _ _ 106 [(0, .ref m), (1, .int (nI (pF c0 0))), (2, .int (nI (pF c1 0))), (3, .int (nI (pF c2 0))), (4, .int (-1))] [] (n, s, h103n102)
      refine WX.s1 rfl rfl ?_
      refine WX.s1 rfl rfl ?_
      refine WX.s1 rfl rfl ?_
      refine WX.mget rfl hm M_h103n102 rfl ?_
      refine WX.s1 rfl rfl ?_
      refine WX.mald (c := 10) rfl hm M_h103n102 (by decide) (by decide) (by decide) (by decide) (by unfold vp_in; decide) ?_
      rw [show A103n102 10 (Int32.toNatClampNeg 0) = nI c0.1.1 from (hR0.fa (FA_A103n102 10 (by decide)) (FA_A103n102 9 (by decide))).1]
      refine WX.callC (vs := [.ref m, .int (nI (pF c0 0)), .int (nI c0.1.1)]) rfl rfl rfl (Nat.le_of_ble_eq_true rfl) (M_h103n102.rcv hm) ?_
      refine m_putV hm M_h103n102 (c := (addB (addB b (pF c2 0) c2.1.1) (pF c1 0) c1.1.1).1) (w := (addB (addB b (pF c2 0) c2.1.1) (pF c1 0) c1.1.1).2) hE2 (by omega) (by omega) (by have q : (addB (addB b (pF c2 0) c2.1.1) (pF c1 0) c1.1.1).1 ≤ b.1 + 18 := (by show b.1 + _ + _ ≤ _; omega); omega) (fun h114n103 I114n103 A114n103 fr114n103 M_h114n103 fi114n103 fa114n103 hE3 => ?_)
      have FR_h114n103 := FR_h103n102.ztr fr114n103
      have FI_I114n103 : Fi I I114n103 (fun f => f = 38) := FI_I103n102.zsub fi114n103 (fun j hj => by first | exact hj | omega)
      have FA_A114n103 : FaS AR A114n103 (fun b => b = 24 ∨ b = 26 ∨ b = 27 ∨ b = 28 ∨ b = 29) := FA_A103n102.ztr (fa114n103.toS (by omega))
      show WX _ _ _ 117 [(0, .ref m), (1, .int (nI (pF c0 0))), (2, .int (nI (pF c1 0))), (3, .int (nI (pF c2 0))), (4, .int (-1))] [] (n, s, h114n103)
      refine WX.s1 rfl rfl ?_
      refine WX.s1 rfl rfl ?_
      refine WX.s1 rfl rfl ?_
      refine WX.callC (vs := [.ref m, .int (nI 1), .int (nI 1)]) rfl rfl rfl (Nat.le_of_ble_eq_true rfl) (M_h114n103.rcv hm) ?_
      refine m_putV hm M_h114n103 (c := (addB (addB (addB b (pF c2 0) c2.1.1) (pF c1 0) c1.1.1) (pF c0 0) c0.1.1).1) (w := (addB (addB (addB b (pF c2 0) c2.1.1) (pF c1 0) c1.1.1) (pF c0 0) c0.1.1).2) hE3 (by decide) (by decide) (by have q : (addB (addB (addB b (pF c2 0) c2.1.1) (pF c1 0) c1.1.1) (pF c0 0) c0.1.1).1 ≤ b.1 + 27 := (by show b.1 + _ + _ + _ ≤ _; omega); omega) (fun h120n104 I120n104 A120n104 fr120n104 M_h120n104 fi120n104 fa120n104 hE4 => ?_)
      have FR_h120n104 := FR_h114n103.ztr fr120n104
      have FI_I120n104 : Fi I I120n104 (fun f => f = 38) := FI_I114n103.zsub fi120n104 (fun j hj => by first | exact hj | omega)
      have FA_A120n104 : FaS AR A120n104 (fun b => b = 24 ∨ b = 26 ∨ b = 27 ∨ b = 28 ∨ b = 29) := FA_A114n103.ztr (fa120n104.toS (by omega))
      have hQ : (addB (addB (addB b (pF c2 0) c2.1.1) (pF c1 0) c1.1.1) (pF c0 0) c0.1.1) = seqB c0 c1 c2 N := hE
      rw [hQ, show 1 % 2 ^ 1 * 2 ^ (seqB c0 c1 c2 N).1 = 2 ^ (seqB c0 c1 c2 N).1 from Nat.one_mul _] at hE4
      have hqb : (seqB c0 c1 c2 N).1 ≤ b.1 + 27 := by rw [← hQ]; show b.1 + _ + _ + _ ≤ _; omega
      show WX _ _ _ 123 [(0, .ref m), (1, .int (nI (pF c0 0))), (2, .int (nI (pF c1 0))), (3, .int (nI (pF c2 0))), (4, .int (-1))] [] (n, s, h120n104)
      refine WX.s1 rfl rfl ?_
      refine WX.callC (vs := [.ref m]) rfl rfl rfl (Nat.le_of_ble_eq_true rfl) (M_h120n104.rcv hm) ?_
      refine m_fillV hm M_h120n104 hE4 (by omega) (fun h124n105 I124n105 A124n105 fr124n105 M_h124n105 fi124n105 fa124n105 hE5 => ?_)
      have FR_h124n105 := FR_h120n104.ztr fr124n105
      have FI_I124n105 : Fi I I124n105 (fun f => f = 38) := FI_I120n104.zsub fi124n105 (fun j hj => by first | exact hj | omega)
      have FA_A124n105 : FaS AR A124n105 (fun b => b = 24 ∨ b = 26 ∨ b = 27 ∨ b = 28 ∨ b = 29) := FA_A120n104.ztr (fa124n105.toS (by omega))
      show WX _ _ _ 127 [(0, .ref m), (1, .int (nI (pF c0 0))), (2, .int (nI (pF c1 0))), (3, .int (nI (pF c2 0))), (4, .int (-1))] [] (n, s, h124n105)
      refine WX.s1 rfl rfl ?_
      refine WX.callC (vs := [.ref m]) rfl rfl rfl (Nat.le_of_ble_eq_true rfl) (M_h124n105.rcv hm) ?_
      refine m_sayMade hm M_h124n105 hE5 (hF.fa (FI_I124n105 40 (by decide)) (FA_A124n105 25 (by decide))) hl hE5.1 (fun h9 I9 A9 fr9 M_h9 fi9 fa9 hF9 => ?_)
      refine WX.ret0 rfl (kk h9 I9 A9 _ _ (FR_h124n105.ztr fr9) M_h9 ((Fi.rf.zsub FI_I124n105 (fun j hj => Or.inl hj)).zsub fi9 (fun j hj => Or.inr hj)) ((FA_A124n105.mono (fun x hx => by omega)).ztr (fa9.toS (by omega))) (hE5.fa (fi9 38 (by decide)) (fa9 24 (by decide))) ?_)
      rw [show 8 * (((seqB c0 c1 c2 N).1 + 1 + 7) / 8) / 8 = (seqB c0 c1 c2 N).1 / 8 + 1 by omega] at hF9
      exact hF9
    | succ z ih =>
      intro b hL IL AL hz hb hE FR_hL M_hL FI_IL FA_AL hML q0 q1 q2
      rw [qIs]
      have a0 := st_1 h1 hz b
      have a1 := st_1 h2 hz (stB c1 z b)
      have a2 := st_1 h0 hz (stB c2 z (stB c1 z b))
      have a3 := ses_1 h0 h1 h2 hz b
      refine WX.s1 rfl rfl ?_
      refine WX.if_ rfl (fun c_42 => absurd c_42 (fun zz_ => absurd ((nI_ltI (a := z) (b := 0) (by omega) (by omega)).mp zz_) (Nat.not_lt.mpr (by omega)))) (fun c_42 => ?_)
      clear c_42
      refine WX.s1 rfl rfl ?_
      refine WX.s1 rfl rfl ?_
      refine WX.s1 rfl rfl ?_
      refine WX.s1 rfl rfl ?_
      refine WX.callC (vs := [.ref m, .int (nI 1), .int (nI z), .int (nI (pF c1 (z + 1)))]) rfl rfl rfl (Nat.le_of_ble_eq_true rfl) (M_hL.rcv hm) ?_
      refine m_putState hm M_hL (by decide) h1 hN hN2 (hR1.fa (FA_AL 10 (by decide)) (FA_AL 9 (by decide))) (hM1.fa (FA_AL 21 (by decide)) (FA_AL 22 (by decide)) (FA_AL 23 (by decide))) q1 hz (b := b) hML (by omega) (fun h50n201 I50n201 A50n201 fr50n201 M_h50n201 fi50n201 fa50n201 hS1 => ?_)
      have FR_h50n201 := FR_hL.ztr fr50n201
      have FI_I50n201 : Fi I I50n201 (fun f => f = 38) := FI_IL.zsub fi50n201 (fun j hj => by first | exact hj | omega)
      have FA_A50n201 : FaS AR A50n201 (fun b => b = 24 ∨ b = 26 ∨ b = 27 ∨ b = 28 ∨ b = 29) := FA_AL.ztr (fa50n201.toS (by omega))
      have q0a := q0.fa (fa50n201 26 (by decide)) (fa50n201 27 (by decide)) (fa50n201 28 (by decide))
      have q1a := q1.fa (fa50n201 26 (by decide)) (fa50n201 27 (by decide)) (fa50n201 28 (by decide))
      have q2a := q2.fa (fa50n201 26 (by decide)) (fa50n201 27 (by decide)) (fa50n201 28 (by decide))
      show WX _ _ _ 53 [(0, .ref m), (1, .int (nI (pF c0 (z + 1)))), (2, .int (nI (pF c1 (z + 1)))), (3, .int (nI (pF c2 (z + 1)))), (4, .int (nI z))] [.int (nI (pF c1 z))] (n, s, h50n201)
      refine WX.s1 (L' := [(0, .ref m), (1, .int (nI (pF c0 (z + 1)))), (2, .int (nI (pF c1 z))), (3, .int (nI (pF c2 (z + 1)))), (4, .int (nI z))]) rfl rfl ?_
      refine WX.s1 rfl rfl ?_
      refine WX.s1 rfl rfl ?_
      refine WX.s1 rfl rfl ?_
      refine WX.s1 rfl rfl ?_
      refine WX.callC (vs := [.ref m, .int (nI 2), .int (nI z), .int (nI (pF c2 (z + 1)))]) rfl rfl rfl (Nat.le_of_ble_eq_true rfl) (M_h50n201.rcv hm) ?_
      refine m_putState hm M_h50n201 (by decide) h2 hN hN2 (hR2.fa (FA_A50n201 10 (by decide)) (FA_A50n201 9 (by decide))) (hM2.fa (FA_A50n201 21 (by decide)) (FA_A50n201 22 (by decide)) (FA_A50n201 23 (by decide))) q2a hz (b := (stB c1 z b)) hS1 (by omega) (fun h59n202 I59n202 A59n202 fr59n202 M_h59n202 fi59n202 fa59n202 hS2 => ?_)
      have FR_h59n202 := FR_h50n201.ztr fr59n202
      have FI_I59n202 : Fi I I59n202 (fun f => f = 38) := FI_I50n201.zsub fi59n202 (fun j hj => by first | exact hj | omega)
      have FA_A59n202 : FaS AR A59n202 (fun b => b = 24 ∨ b = 26 ∨ b = 27 ∨ b = 28 ∨ b = 29) := FA_A50n201.ztr (fa59n202.toS (by omega))
      have q0b := q0a.fa (fa59n202 26 (by decide)) (fa59n202 27 (by decide)) (fa59n202 28 (by decide))
      have q1b := q1a.fa (fa59n202 26 (by decide)) (fa59n202 27 (by decide)) (fa59n202 28 (by decide))
      have q2b := q2a.fa (fa59n202 26 (by decide)) (fa59n202 27 (by decide)) (fa59n202 28 (by decide))
      show WX _ _ _ 62 [(0, .ref m), (1, .int (nI (pF c0 (z + 1)))), (2, .int (nI (pF c1 z))), (3, .int (nI (pF c2 (z + 1)))), (4, .int (nI z))] [.int (nI (pF c2 z))] (n, s, h59n202)
      refine WX.s1 (L' := [(0, .ref m), (1, .int (nI (pF c0 (z + 1)))), (2, .int (nI (pF c1 z))), (3, .int (nI (pF c2 z))), (4, .int (nI z))]) rfl rfl ?_
      refine WX.s1 rfl rfl ?_
      refine WX.s1 rfl rfl ?_
      refine WX.s1 rfl rfl ?_
      refine WX.s1 rfl rfl ?_
      refine WX.callC (vs := [.ref m, .int (nI 0), .int (nI z), .int (nI (pF c0 (z + 1)))]) rfl rfl rfl (Nat.le_of_ble_eq_true rfl) (M_h59n202.rcv hm) ?_
      refine m_putState hm M_h59n202 (by decide) h0 hN hN2 (hR0.fa (FA_A59n202 10 (by decide)) (FA_A59n202 9 (by decide))) (hM0.fa (FA_A59n202 21 (by decide)) (FA_A59n202 22 (by decide)) (FA_A59n202 23 (by decide))) q0b hz (b := (stB c2 z (stB c1 z b))) hS2 (by omega) (fun h68n203 I68n203 A68n203 fr68n203 M_h68n203 fi68n203 fa68n203 hS3 => ?_)
      have FR_h68n203 := FR_h59n202.ztr fr68n203
      have FI_I68n203 : Fi I I68n203 (fun f => f = 38) := FI_I59n202.zsub fi68n203 (fun j hj => by first | exact hj | omega)
      have FA_A68n203 : FaS AR A68n203 (fun b => b = 24 ∨ b = 26 ∨ b = 27 ∨ b = 28 ∨ b = 29) := FA_A59n202.ztr (fa68n203.toS (by omega))
      have q0c := q0b.fa (fa68n203 26 (by decide)) (fa68n203 27 (by decide)) (fa68n203 28 (by decide))
      have q1c := q1b.fa (fa68n203 26 (by decide)) (fa68n203 27 (by decide)) (fa68n203 28 (by decide))
      have q2c := q2b.fa (fa68n203 26 (by decide)) (fa68n203 27 (by decide)) (fa68n203 28 (by decide))
      show WX _ _ _ 71 [(0, .ref m), (1, .int (nI (pF c0 (z + 1)))), (2, .int (nI (pF c1 z))), (3, .int (nI (pF c2 z))), (4, .int (nI z))] [.int (nI (pF c0 z))] (n, s, h68n203)
      refine WX.s1 (L' := [(0, .ref m), (1, .int (nI (pF c0 z))), (2, .int (nI (pF c1 z))), (3, .int (nI (pF c2 z))), (4, .int (nI z))]) rfl rfl ?_
      refine WX.s1 rfl rfl ?_
      refine WX.s1 rfl rfl ?_
      refine WX.callC (vs := [.ref m, .int (nI z)]) rfl rfl rfl (Nat.le_of_ble_eq_true rfl) (M_h68n203.rcv hm) ?_
      refine m_putAll hm M_h68n203 h0 h1 h2 hN2 (hM0.fa (FA_A68n203 21 (by decide)) (FA_A68n203 22 (by decide)) (FA_A68n203 23 (by decide))) (hM1.fa (FA_A68n203 21 (by decide)) (FA_A68n203 22 (by decide)) (FA_A68n203 23 (by decide))) (hM2.fa (FA_A68n203 21 (by decide)) (FA_A68n203 22 (by decide)) (FA_A68n203 23 (by decide))) (by omega) (b := (stB c0 z (stB c2 z (stB c1 z b)))) hS3 (by omega) (fun h75n204 I75n204 A75n204 fr75n204 M_h75n204 fi75n204 fa75n204 hA1 => ?_)
      have FR_h75n204 := FR_h68n203.ztr fr75n204
      have FI_I75n204 : Fi I I75n204 (fun f => f = 38) := FI_I68n203.zsub fi75n204 (fun j hj => by first | exact hj | omega)
      have FA_A75n204 : FaS AR A75n204 (fun b => b = 24 ∨ b = 26 ∨ b = 27 ∨ b = 28 ∨ b = 29) := FA_A68n203.ztr (fa75n204.toS (by omega))
      have q0d := q0c.fa (fa75n204 26 (by decide)) (fa75n204 27 (by decide)) (fa75n204 28 (by decide))
      have q1d := q1c.fa (fa75n204 26 (by decide)) (fa75n204 27 (by decide)) (fa75n204 28 (by decide))
      have q2d := q2c.fa (fa75n204 26 (by decide)) (fa75n204 27 (by decide)) (fa75n204 28 (by decide))
      show WX _ _ _ 78 [(0, .ref m), (1, .int (nI (pF c0 z))), (2, .int (nI (pF c1 z))), (3, .int (nI (pF c2 z))), (4, .int (nI z))] [] (n, s, h75n204)
      refine WX.s1 (L' := [(0, .ref m), (1, .int (nI (pF c0 z))), (2, .int (nI (pF c1 z))), (3, .int (nI (pF c2 z))), (4, .int ((nI z) + (-1)))]) rfl rfl ?_
      rw [show (nI z) + (-1) = qI z from qI_dec z]
      refine WX.s1 rfl rfl ?_
      exact ih (seS c0 c1 c2 z b) h75n204 I75n204 A75n204 (by omega) (by omega) hE FR_h75n204 M_h75n204 FI_I75n204 FA_A75n204 hA1 q0d q1d q2d
  exact lp (N - 1) _ h29n5 I29n5 A29n5 (by omega) (by have q := ad_1 h0 h1 h2 (show N - 1 < N by omega) (0, 0); rw [show N - (N - 1) = 1 by omega]; exact Nat.le_trans q (by decide)) rfl FR_h29n5 M_h29n5 FI_I29n5 FA_A29n5 hA0 pl0d pl1d pl2d
