/-! the reference: the sequences said; what a table costs -/
def ChP (tK : Tb) (tH : Option Tb) (G : Nat) (ss : List Nat) (b : Nat × Nat) : Prop := b.1 = 9 ∨ ((∀ s, s ∈ ss → massU ((chT tK tH G ss b.1).2 s) ≠ 0) ∧ b.2 = 8 * (tbY ss G b.1).length + rcF (chT tK tH G ss b.1).2 64 (chT tK tH G ss b.1).1 ss)
theorem tbY_0 {ss : List Nat} {G md : Nat} (h1 : md ≠ 1) (h2 : md ≠ 2) : tbY ss G md = [] := by
  have q : mdB ss G md = (0, 0) := by unfold mdB; rw [if_neg h1, if_neg h2]
  unfold tbY
  rw [q]
  rfl
theorem chp_A {tK : Tb} {tH : Option Tb} {G : Nat} {ss : List Nat} : ChP tK tH G ss (chA (tabC tK ss)) := by
  by_cases h : ∀ s, s ∈ ss → massU (tK.2 s) ≠ 0
  · have e : tabC tK ss = some (rcF tK.2 64 tK.1 ss) := if_pos h
    rw [e]
    refine Or.inr ⟨h, ?_⟩
    rw [show (chA (some (rcF tK.2 64 tK.1 ss))).1 = 0 from rfl, tbY_0 (by decide) (by decide)]
    exact (Nat.zero_add _).symm
  · have e : tabC tK ss = none := if_neg h
    rw [e]
    exact Or.inl rfl
theorem chp_B {tK : Tb} {tH : Option Tb} {G : Nat} {ss : List Nat} {b : Nat × Nat} (hok : SyOk ss) (h : ChP tK tH G ss b) : ChP tK tH G ss (chB (cdF ss).2 b) := by
  unfold chB
  split
  · rename_i q
    refine Or.inr ⟨fun s hs => ?_, ?_⟩
    · show massU (aloU (ss.getD 0 0) s) ≠ 0
      exact alo_mass.mpr (cd_one hok q.1 s hs)
    · have e : tabC (0, aloU (ss.getD 0 0)) ss = some 0 := by rw [tabC_alo hok]; exact if_pos ⟨q.1, rfl⟩
      have h2 : ∀ s, s ∈ ss → massU (((0, aloU (ss.getD 0 0)) : Tb).2 s) ≠ 0 := fun s hs => alo_mass.mpr (cd_one hok q.1 s hs)
      have e2 : tabC (0, aloU (ss.getD 0 0)) ss = some (rcF (aloU (ss.getD 0 0)) 64 0 ss) := if_pos h2
      rw [e] at e2
      have e3 := Option.some.inj e2
      show 8 = 8 * (tbY ss G 1).length + rcF (aloU (ss.getD 0 0)) 64 0 ss
      rw [← e3, tbY_1]
      rfl
  · exact h
theorem chp_C {tK : Tb} {tH : Option Tb} {G : Nat} {ss : List Nat} {b : Nat × Nat} (hok : SyOk ss) (h6 : 6 ≤ G) (h9 : G ≤ 9) (h : ChP tK tH G ss b) : ChP tK tH G ss (chC (boF ss (G - 4)) b) := by
  unfold chC
  split
  · obtain ⟨b1, b2, b3, b4, b5⟩ := bo_fin hok h6 h9
    refine Or.inr ⟨fun s hs => (wU_m hok b3 s hs).2, ?_⟩
    show (boF ss (G - 4)).2 = 8 * (tbY ss G 2).length + rcF (wU (cdF ss).1 (boF ss (G - 4)).1 64) 64 (boF ss (G - 4)).1 ss
    rw [tbY_2, leBy_len, b4]
    rfl
  · exact h
theorem chp_D {tK : Tb} {tH : Option Tb} {G : Nat} {ss : List Nat} {b : Nat × Nat} (h : ChP tK tH G ss b) : ChP tK tH G ss (chD (tH.bind (fun t => tabC t ss)) b) := by
  cases tH with
  | none => exact h
  | some t =>
    by_cases a : ∀ s, s ∈ ss → massU (t.2 s) ≠ 0
    · have e : tabC t ss = some (rcF t.2 64 t.1 ss) := if_pos a
      rw [show (some t).bind (fun t => tabC t ss) = tabC t ss from rfl, e]
      by_cases q : rcF t.2 64 t.1 ss < b.2
      · rw [show chD (some (rcF t.2 64 t.1 ss)) b = (3, rcF t.2 64 t.1 ss) from if_pos q]
        refine Or.inr ⟨a, ?_⟩
        rw [show ((3, rcF t.2 64 t.1 ss) : Nat × Nat).1 = 3 from rfl, tbY_0 (by decide) (by decide)]
        exact (Nat.zero_add _).symm
      · rw [show chD (some (rcF t.2 64 t.1 ss)) b = b from if_neg q]
        exact h
    · have e : tabC t ss = none := if_neg a
      rw [show (some t).bind (fun t => tabC t ss) = tabC t ss from rfl, e]
      exact h
theorem ch_all {tK : Tb} {tH : Option Tb} {l M G : Nat} {ss : List Nat} (hok : SyOk ss) (hl : l < 64) (hG6 : 6 ≤ G) (hG : G ≤ 9) (hM : M = 2 ^ G) (hs : ∀ s, s ∈ ss → s ≤ l) (hK : TbOk l M tK) (hH : TbO l M tH) : (chF tK tH G ss).1 ≤ 3 ∧ (chF tK tH G ss).2 < 2 ^ 20 ∧ TbOk l M (chT tK tH G ss (chF tK tH G ss).1) ∧ (∀ s, s ∈ ss → massU ((chT tK tH G ss (chF tK tH G ss).1).2 s) ≠ 0) ∧ (chF tK tH G ss).2 = 8 * (tbY ss G (chF tK tH G ss).1).length + rcF (chT tK tH G ss (chF tK tH G ss).1).2 64 (chT tK tH G ss (chF tK tH G ss).1).1 ss := by
  obtain ⟨f1, f2, f3, f4, f5, f6⟩ := chF_fin hok hl hG6 hG hM hs hK hH rfl rfl rfl (rfl : chD (tH.bind (fun t => tabC t ss)) (chC (boF ss (G - 4)) (chB (cdF ss).2 (chA (tabC tK ss)))) = chF tK tH G ss)
  have hp : ChP tK tH G ss (chF tK tH G ss) := chp_D (chp_C hok hG6 hG (chp_B hok chp_A))
  have f1' : (chF tK tH G ss).1 ≤ 3 := f1
  rcases hp with hp | hp
  · rw [hp] at f1'; exact absurd f1' (by decide)
  · exact ⟨f1, f2, f4, hp.1, hp.2⟩
theorem row_cost {c : Clm} {N : Nat} (h : ClOk c N) : ∀ k, k + 1 ≤ N → RowC c.1.2 64 c.1.1 (c.2.1.drop (N - 1 - k)) (c.1.1 + sumN (fun i => vF c (N - 1 - 1 - i)) k) (pF c (N - 1 - k)) := by
  have h4 := h.2.2.2.1
  intro k
  induction k with
  | zero =>
    intro hk
    have q := pf_low h (show N - 1 + 1 = N by omega)
    rw [Nat.sub_zero, drop_last (by omega)]
    exact ⟨q, rfl⟩
  | succ k ih =>
    intro hk
    have q := pf_nx h (show N - 1 - (k + 1) + 1 < N by omega)
    have r := ih (by omega)
    rw [show N - 1 - (k + 1) + 1 = N - 1 - k by omega] at q
    rw [drop_get (show N - 1 - (k + 1) < c.2.1.length by omega), show N - 1 - (k + 1) + 1 = N - 1 - k by omega]
    have z := r.cons q
    rw [show N - 1 - (k + 1) = N - 1 - 1 - k by omega] at z ⊢
    rw [Nat.add_assoc] at z
    exact z
theorem rc_sum {c : Clm} {N : Nat} (h : ClOk c N) (hN : 1 ≤ N) : rcF c.1.2 64 c.1.1 c.2.1 = c.1.1 + sumN (vF c) (N - 1) := by
  have r := row_cost h (N - 1) (by omega)
  rw [Nat.sub_self, List.drop_zero, sumN_rev (vF c) (N - 1)] at r
  exact rcF_is h.1 h.2.1 h.2.2.1 r
theorem seL_1 (c0 c1 c2 : Clm) : ∀ (z : Nat) (b : Nat × Nat), (seL c0 c1 c2 z b).1 = b.1 + sumN (vF c0) z + sumN (vF c1) z + sumN (vF c2) z + sumN c0.2.2.2 z + sumN c1.2.2.2 z + sumN c2.2.2.2 z := by
  intro z
  induction z with
  | zero => intro b; rfl
  | succ z ih =>
    intro b
    show (seL c0 c1 c2 z (seS c0 c1 c2 z b)).1 = _
    rw [ih]
    show b.1 + vF c1 z + vF c2 z + vF c0 z + c0.2.2.2 z + c2.2.2.2 z + c1.2.2.2 z + _ + _ + _ + _ + _ + _ = b.1 + (sumN (vF c0) z + vF c0 z) + (sumN (vF c1) z + vF c1 z) + (sumN (vF c2) z + vF c2 z) + (sumN c0.2.2.2 z + c0.2.2.2 z) + (sumN c1.2.2.2 z + c1.2.2.2 z) + (sumN c2.2.2.2 z + c2.2.2.2 z)
    omega
theorem seq_bits {c0 c1 c2 : Clm} {N : Nat} (h0 : ClOk c0 N) (h1 : ClOk c1 N) (h2 : ClOk c2 N) (hN : 1 ≤ N) : (seqB c0 c1 c2 N).1 = rcF c0.1.2 64 c0.1.1 c0.2.1 + rcF c1.1.2 64 c1.1.1 c1.2.1 + rcF c2.1.2 64 c2.1.1 c2.2.1 + sumN c0.2.2.2 N + sumN c1.2.2.2 N + sumN c2.2.2.2 N := by
  rw [rc_sum h0 hN, rc_sum h1 hN, rc_sum h2 hN]
  show (seL c0 c1 c2 (N - 1) (adB c0 c1 c2 (N - 1) (0, 0))).1 + c2.1.1 + c1.1.1 + c0.1.1 = _
  rw [seL_1]
  obtain ⟨K, rfl⟩ : ∃ K, N = K + 1 := ⟨N - 1, by omega⟩
  rw [Nat.add_sub_cancel]
  show 0 + c0.2.2.2 K + c2.2.2.2 K + c1.2.2.2 K + _ + _ + _ + _ + _ + _ + _ + _ + _ = _ + _ + _ + (sumN c0.2.2.2 K + c0.2.2.2 K) + (sumN c1.2.2.2 K + c1.2.2.2 K) + (sumN c2.2.2.2 K + c2.2.2.2 K)
  omega
theorem colF_3 (sy wd : Nat → Nat) (vs : List Nat) : ∀ k, k ≤ vs.length → (colF sy wd (vs.take k)).2.2 = sumN (fun i => wd (sy (vs.getD i 0))) k := by
  intro k
  induction k with
  | zero => intro _; rfl
  | succ k ih =>
    intro hk
    have e : vs.take (k + 1) = vs.take k ++ [vs.getD k 0] := by
      rw [List.take_succ, List.getElem?_eq_getElem (show k < vs.length by omega), List.getD_eq_getElem?_getD, List.getElem?_eq_getElem (show k < vs.length by omega)]
      rfl
    rw [e, colF_snoc]
    show (colF sy wd (vs.take k)).2.2 + _ = sumN _ k + _
    rw [ih (by omega)]
theorem colF_all (sy wd : Nat → Nat) (vs : List Nat) : (colF sy wd vs).2.2 = sumN (fun i => wd (sy (vs.getD i 0))) vs.length := by
  have h := colF_3 sy wd vs vs.length (Nat.le_refl _)
  rw [List.take_length] at h
  exact h
theorem sy_B {B : Nat → Nat} {NB v s : Nat} (h : IsSy B NB v s) (h0 : B 0 ≤ v) : B s ≤ v := by
  by_cases z : s = 0
  · rw [z]; exact h0
  · exact h.2.1 s (by omega) (Nat.le_refl s)
theorem wd1_13 : ∀ s, s < 36 → B1 s ≤ 16003 → wd1 s ≤ 13 := by decide +kernel
theorem wd2_13 : ∀ s, s < 17 → B2 s ≤ 16003 → wd2 s ≤ 13 := by decide +kernel
theorem wd3_13 : ∀ s, s < 53 → B3 s ≤ 16003 → wd3 s ≤ 13 := by decide +kernel
theorem cv_of {l M NB : Nat} {B sy wd : Nat → Nat} {vs : List Nat} {t : Tb} (hsy : ∀ v, IsSy B NB v (sy v)) (hwd : ∀ s, s < NB → B s ≤ 16003 → wd s ≤ 13) (hl : l < 64) (hM : M < 2 ^ 20) (hNB : NB ≤ 64) (hv : ∀ v, v ∈ vs → v ≤ 16003 ∧ B 0 ≤ v) (hT : TbOk l M t) (ha : ∀ s, s ∈ vs.map sy → massU (t.2 s) ≠ 0) : CvOk l M B sy wd vs t vs.length := by
  have hb : ∀ v, v ∈ vs → B (sy v) ≤ v := fun v q => sy_B (hsy v) (hv v q).2
  refine ⟨rfl, ⟨hT.1, hT.2.1, (tb_pad hT hl).1, List.length_map _, fun s q => ⟨?_, ha s q⟩, fun i hi => ?_⟩, hT, hl, hM, fun v q => ⟨(hv v q).1, hb v q⟩⟩
  · obtain ⟨v, -, rfl⟩ := List.mem_map.mp q
    have := (hsy v).1
    omega
  · have q := getD_mem hi
    have q1 := hv _ q
    have q2 := hb _ q
    exact ⟨by show _ - _ < _; omega, hwd _ (hsy _).1 (by omega)⟩
theorem TellA.sy {A : Nat → Nat → Int32} {t : Nat} {sy wd B : Nat → Nat} {vs : List Nat} (h : TellA A t sy wd B vs) (hs : ∀ v, sy v < 64) : SyM A t (vs.map sy) := fun i hi => by
  rw [List.length_map] at hi
  rw [map_getD hi]
  exact ⟨(h i hi).1, hs _⟩
theorem TellA.mo {A : Nat → Nat → Int32} {t : Nat} {sy wd B : Nat → Nat} {vs : List Nat} {tb : Tb} (h : TellA A t sy wd B vs) : MoM A t (clm tb sy wd B vs) := fun i hi => by
  have hi : i < vs.length := by rw [show (clm tb sy wd B vs).2.1 = vs.map sy from rfl, List.length_map] at hi; exact hi
  rw [show (clm tb sy wd B vs).2.1.getD i 0 = sy (vs.getD i 0) from map_getD hi]
  exact h i hi
theorem getD_l {l r : List Nat} {i : Nat} (h : i < l.length) : (l ++ r).getD i 0 = l.getD i 0 := by
  rw [List.getD_eq_getElem?_getD, List.getD_eq_getElem?_getD, List.getElem?_append_left h]
theorem getD_r {l r : List Nat} {i : Nat} (h : l.length ≤ i) : (l ++ r).getD i 0 = r.getD (i - l.length) 0 := by
  rw [List.getD_eq_getElem?_getD, List.getD_eq_getElem?_getD, List.getElem?_append_right h]
theorem FrameIs.put_ {I : Nat → Int32} {A B : Nat → Nat → Int32} {l r : List Nat} {x y : Nat} (F : FrameIs I A (l ++ x :: r)) (e : B 25 = upd (A 25) l.length (nI y)) : FrameIs I B (l ++ y :: r) := by
  obtain ⟨f1, f2⟩ := F
  refine ⟨by rw [f1]; simp, fun i h1 h2 => ?_⟩
  rw [e]
  by_cases z : i = l.length
  · subst z
    rw [pk_us, getD_r (Nat.le_refl _), Nat.sub_self]
    rfl
  · rw [pk_un z, f2 i (by rw [List.length_append] at h1 ⊢; exact h1) h2]
    by_cases q : i < l.length
    · rw [getD_l q, getD_l q]
    · rw [getD_r (by omega), getD_r (by omega)]
      obtain ⟨j, hj⟩ : ∃ j, i - l.length = j + 1 := ⟨i - l.length - 1, by omega⟩
      rw [hj]
      rfl
theorem FrameIs.put_far {I : Nat → Int32} {A : Nat → Nat → Int32} {l r : List Nat} {x y : Nat} (F : FrameIs I A (l ++ x :: r)) (e : 12000 ≤ l.length) : FrameIs I A (l ++ y :: r) := by
  obtain ⟨f1, f2⟩ := F
  refine ⟨by rw [f1]; simp, fun i h1 h2 => ?_⟩
  rw [f2 i (by rw [List.length_append] at h1 ⊢; exact h1) h2, getD_l (by omega), getD_l (by omega)]
def NtM (A : Nat → Nat → Int32) (nt : Nat → Nat) : Prop := ∀ q, q < 12 → A 42 q = nI (nt q)
theorem NtM.zup {A B : Nat → Nat → Int32} {nt : Nat → Nat} {q : Nat} (h : NtM A nt) (e : B = upA A 42 q (nI (nt q + 1))) : NtM B (updN nt q (nt q + 1)) := fun p hp => by
  rw [e, upA_same]
  by_cases z : p = q
  · rw [z, pk_us, updN_s]
  · rw [pk_un z, updN_n z]; exact h p hp
theorem or3 : ∀ a, a < 4 → ∀ b, b < 4 → ∀ c, c < 4 → (((0 : Int32) ||| (nI a <<< ((6 - ((2 : Int32) * 0)) &&& 31))) ||| (nI b <<< ((6 - ((2 : Int32) * 1)) &&& 31))) ||| (nI c <<< ((6 - ((2 : Int32) * 2)) &&& 31)) = nI (64 * a + 16 * b + 4 * c) := by decide +kernel
def cntN (nt : Nat → Nat) (q : Nat) : Nat → Nat := updN nt q (nt q + 1)
theorem RefT.ot {A B : Nat → Nat → Int32} {tb : Nat} {t : Option Tb} (h : RefT A tb t) (h1 : B 10 tb = A 10 tb) (h2 : ∀ x, x < 64 → B 9 (64 * tb + x) = A 9 (64 * tb + x)) : RefT B tb t := by
  cases t with
  | none => exact h1.trans h
  | some t => exact ⟨h1.trans h.1, fun s hs => (h2 s hs).trans (h.2 s hs)⟩
set_option maxRecDepth 20000 in
theorem m_saySeq0 {d n s : Nat} {h : Nat → aE} {m : Nat} {I : Nat → Int32} {AR : Nat → Nat → Int32} {LN : Nat → Int64} {l : List Nat} (hm : m + 43 < n) (M_h : MAt h m I AR LN) (hF : FrameIs I AR l) (hl : l.length < 2 ^ 27) (K_I_31 : I 31 = (nI 0)) {Ψ : Option Value → aH → Prop} (kk : ∀ h' I' A', Fr h h' (inM m) → MAt h' m I' A' LN → Fi I I' (fun f => f = 40) → Fa AR A' 25 → FrameIs I' A' (l ++ [0]) → Ψ none (n, s, h')) : WO (mM (d + 2)) 202 [.ref m] (n, s, h) Ψ := by
  refine WO.of (Nat.le_of_ble_eq_true rfl) ?_
  have FR_h : Fr h h (inM m) := Fr.rf
  have FI_I : Fi I I (fun f => f = 40) := Fi.rf
  show WX (lk tX12_saySequences) (mM (d + 1)) Ψ 0 [(0, .ref m)] [] (n, s, h)
  refine WX.s1 rfl rfl ?_
  refine WX.mgetK (x := (nI 0)) rfl hm M_h rfl K_I_31 ?_
  refine WX.s1 (L' := [(0, .ref m), (1, .int (nI 0))]) rfl rfl ?_
  refine WX.s1 rfl rfl ?_
  refine WX.s1 rfl rfl ?_
  refine WX.icmp rfl (fun c_9 => absurd c_9 (by decide)) (fun c_9 => ?_)
  refine WX.s1 rfl rfl ?_
  refine WX.s1 rfl rfl ?_
  refine WX.callC (vs := [.ref m, .int (nI 0)]) rfl rfl rfl (Nat.le_of_ble_eq_true rfl) (M_h.rcv hm) ?_
  refine m_sayL hm M_h hF (by omega) (fun h2 I2 A2 fr2 M_h2 fi2 fa2 hF2 => ?_)
  show WX _ _ _ 17 [(0, .ref m), (1, .int (nI 0))] [] (n, s, h2)
  refine WX.s1 rfl rfl ?_
  refine WX.s1 rfl rfl ?_
  refine WX.if_ rfl (fun c_71 => absurd c_71 (by decide)) (fun c_71 => ?_)
  exact WX.ret0 rfl (kk h2 I2 A2 fr2 M_h2 fi2 fa2 hF2)
set_option maxRecDepth 20000 in
theorem m_saySeq {d n s : Nat} {h : Nat → aE} {m : Nat} {I : Nat → Int32} {AR : Nat → Nat → Int32} {LN : Nat → Int64} {l : List Nat} {N c0 w0 : Nat} {vs1 vs2 vs3 : List Nat} {tH1 tH2 tH3 : Option Tb} {nt : Nat → Nat} {m1 m2 m3 : Nat} {t1 t2 t3 : Tb} (hm : m + 43 < n) (M_h : MAt h m I AR LN) (hF : FrameIs I AR l) (hl : l.length < 2 ^ 27) (hN : 1 ≤ N) (hN2 : N ≤ 2667) (hM : MadeIs I AR c0 w0) (hT1 : TellA AR 0 sy1 wd1 B1 vs1) (hR1 : RefT AR 0 tH1) (hH1 : TbO 35 512 tH1) (hA1 : Alo tH1) (hv1 : ∀ v, v ∈ vs1 → v ≤ 16003 ∧ B1 0 ≤ v) (hl1 : vs1.length = N) (hT2 : TellA AR 1 sy2 wd2 B2 vs2) (hR2 : RefT AR 1 tH2) (hH2 : TbO 31 256 tH2) (hA2 : Alo tH2) (hv2 : ∀ v, v ∈ vs2 → v ≤ 16003 ∧ B2 0 ≤ v) (hl2 : vs2.length = N) (hT3 : TellA AR 2 sy3 wd3 B3 vs3) (hR3 : RefT AR 2 tH3) (hH3 : TbO 52 512 tH3) (hA3 : Alo tH3) (hv3 : ∀ v, v ∈ vs3 → v ≤ 16003 ∧ B3 0 ≤ v) (hl3 : vs3.length = N) (hnt : NtM AR nt) (hm1 : m1 = (chF (tKn 0) tH1 9 (vs1.map sy1)).1) (ht1 : t1 = chT (tKn 0) tH1 9 (vs1.map sy1) m1) (hm2 : m2 = (chF (tKn 1) tH2 8 (vs2.map sy2)).1) (ht2 : t2 = chT (tKn 1) tH2 8 (vs2.map sy2) m2) (hm3 : m3 = (chF (tKn 2) tH3 9 (vs3.map sy3)).1) (ht3 : t3 = chT (tKn 2) tH3 9 (vs3.map sy3) m3) (K_I_31 : I 31 = (nI N)) {Ψ : Option Value → aH → Prop} (kk : ∀ h' I' A' c w, Fr h h' (inM m) → MAt h' m I' A' LN → Fi I I' (fun f => f = 38 ∨ f = 40) → FaS AR A' (fun b => b = 9 ∨ b = 10 ∨ b = 24 ∨ b = 25 ∨ (26 ≤ b ∧ b ≤ 33) ∨ b = 42) → MadeIs I' A' c w → FrameIs I' A' (l ++ sqY vs1 vs2 vs3 t1 t2 t3 m1 m2 m3 N) → NtM A' (cntN (cntN (cntN nt (8 + m1)) (8 + m2)) (8 + m3)) → RefT A' 0 (some t1) → RefT A' 1 (some t2) → RefT A' 2 (some t3) → Ψ none (n, s, h')) : WO (mM (d + 7)) 202 [.ref m] (n, s, h) Ψ := by
  refine WO.of (Nat.le_of_ble_eq_true rfl) ?_
  have FR_h : Fr h h (inM m) := Fr.rf
  have FI_I : Fi I I (fun f => f = 38 ∨ f = 40) := Fi.rf
  have FA_AR : FaS AR AR (fun b => b = 9 ∨ b = 10 ∨ b = 24 ∨ b = 25 ∨ (26 ≤ b ∧ b ≤ 33) ∨ b = 42) := FaS.rf
  show WX (lk tX12_saySequences) (mM (d + 6)) Ψ 0 [(0, .ref m)] [] (n, s, h)
  obtain ⟨a1, e1, b1, g1, z1⟩ := ch_all (tK := tKn 0) (tH := tH1) (G := 9) (ss := vs1.map sy1) (l := 35) (M := 512) ⟨fun s q => by obtain ⟨v, -, rfl⟩ := List.mem_map.mp q; have := (sy1_is v).1; omega, by rw [List.length_map, hl1]; exact hN, by rw [List.length_map, hl1]; exact hN2⟩ (by decide) (by decide) (by decide) rfl (fun s q => by obtain ⟨v, -, rfl⟩ := List.mem_map.mp q; have := (sy1_is v).1; omega) (kn_ok (tb := 0) (by decide)) hH1
  rw [← hm1] at a1 b1 g1 z1
  have y1 : (tbY (vs1.map sy1) 9 m1).length < 2 ^ 17 := by omega
  rw [← ht1] at b1 g1
  have hok1 : SyOk (vs1.map sy1) := ⟨fun s q => by obtain ⟨v, -, rfl⟩ := List.mem_map.mp q; have := (sy1_is v).1; omega, by rw [List.length_map, hl1]; exact hN, by rw [List.length_map, hl1]; exact hN2⟩
  have hs1 : ∀ s, s ∈ vs1.map sy1 → s ≤ 35 := fun s q => by obtain ⟨v, -, rfl⟩ := List.mem_map.mp q; have := (sy1_is v).1; omega
  have hcv1 : CvOk 35 512 B1 sy1 wd1 vs1 t1 N := by rw [← hl1]; exact cv_of sy1_is wd1_13 (by decide) (by decide) (by decide) hv1 b1 g1
  clear e1 z1
  obtain ⟨a2, e2, b2, g2, z2⟩ := ch_all (tK := tKn 1) (tH := tH2) (G := 8) (ss := vs2.map sy2) (l := 31) (M := 256) ⟨fun s q => by obtain ⟨v, -, rfl⟩ := List.mem_map.mp q; have := (sy2_is v).1; omega, by rw [List.length_map, hl2]; exact hN, by rw [List.length_map, hl2]; exact hN2⟩ (by decide) (by decide) (by decide) rfl (fun s q => by obtain ⟨v, -, rfl⟩ := List.mem_map.mp q; have := (sy2_is v).1; omega) (kn_ok (tb := 1) (by decide)) hH2
  rw [← hm2] at a2 b2 g2 z2
  have y2 : (tbY (vs2.map sy2) 8 m2).length < 2 ^ 17 := by omega
  rw [← ht2] at b2 g2
  have hok2 : SyOk (vs2.map sy2) := ⟨fun s q => by obtain ⟨v, -, rfl⟩ := List.mem_map.mp q; have := (sy2_is v).1; omega, by rw [List.length_map, hl2]; exact hN, by rw [List.length_map, hl2]; exact hN2⟩
  have hs2 : ∀ s, s ∈ vs2.map sy2 → s ≤ 31 := fun s q => by obtain ⟨v, -, rfl⟩ := List.mem_map.mp q; have := (sy2_is v).1; omega
  have hcv2 : CvOk 31 256 B2 sy2 wd2 vs2 t2 N := by rw [← hl2]; exact cv_of sy2_is wd2_13 (by decide) (by decide) (by decide) hv2 b2 g2
  clear e2 z2
  obtain ⟨a3, e3, b3, g3, z3⟩ := ch_all (tK := tKn 2) (tH := tH3) (G := 9) (ss := vs3.map sy3) (l := 52) (M := 512) ⟨fun s q => by obtain ⟨v, -, rfl⟩ := List.mem_map.mp q; have := (sy3_is v).1; omega, by rw [List.length_map, hl3]; exact hN, by rw [List.length_map, hl3]; exact hN2⟩ (by decide) (by decide) (by decide) rfl (fun s q => by obtain ⟨v, -, rfl⟩ := List.mem_map.mp q; have := (sy3_is v).1; omega) (kn_ok (tb := 2) (by decide)) hH3
  rw [← hm3] at a3 b3 g3 z3
  have y3 : (tbY (vs3.map sy3) 9 m3).length < 2 ^ 17 := by omega
  rw [← ht3] at b3 g3
  have hok3 : SyOk (vs3.map sy3) := ⟨fun s q => by obtain ⟨v, -, rfl⟩ := List.mem_map.mp q; have := (sy3_is v).1; omega, by rw [List.length_map, hl3]; exact hN, by rw [List.length_map, hl3]; exact hN2⟩
  have hs3 : ∀ s, s ∈ vs3.map sy3 → s ≤ 52 := fun s q => by obtain ⟨v, -, rfl⟩ := List.mem_map.mp q; have := (sy3_is v).1; omega
  have hcv3 : CvOk 52 512 B3 sy3 wd3 vs3 t3 N := by rw [← hl3]; exact cv_of sy3_is wd3_13 (by decide) (by decide) (by decide) hv3 b3 g3
  clear e3 z3
  refine WX.s1 rfl rfl ?_
  refine WX.mgetK (x := (nI N)) rfl hm M_h rfl K_I_31 ?_
  refine WX.s1 (L' := [(0, .ref m), (1, .int (nI N))]) rfl rfl ?_
  have t70 : ∀ (hL : Nat → aE) (IL : Nat → Int32) (AL : Nat → Nat → Int32), Fr h hL (inM m) → MAt hL m IL AL LN → Fi I IL (fun f => f = 38 ∨ f = 40) → FaS AR AL (fun b => b = 25) → IL 31 = nI N → MadeIs IL AL c0 w0 → FrameIs IL AL (l ++ cntY N) → WX (lk tX12_saySequences) (mM (d + 6)) Ψ 70 [(0, .ref m), (1, .int (nI N))] [] (n, s, hL) := by
    clear M_h FR_h FI_I FA_AR K_I_31
    intro hL IL AL FR_hL M_hL FI_IL fa0 K_IL_31 hMI hF0
    have FA_AL : FaS AR AL (fun b => b = 9 ∨ b = 10 ∨ b = 24 ∨ b = 25 ∨ (26 ≤ b ∧ b ≤ 33) ∨ b = 42) := fa0.mono (fun x hx => by omega)
    replace hT1 := hT1.same (fa0 21 (by decide)) (fa0 22 (by decide)) (fa0 23 (by decide))
    replace hR1 := hR1.fa (fa0 10 (by decide)) (fa0 9 (by decide))
    replace hT2 := hT2.same (fa0 21 (by decide)) (fa0 22 (by decide)) (fa0 23 (by decide))
    replace hR2 := hR2.fa (fa0 10 (by decide)) (fa0 9 (by decide))
    replace hT3 := hT3.same (fa0 21 (by decide)) (fa0 22 (by decide)) (fa0 23 (by decide))
    replace hR3 := hR3.fa (fa0 10 (by decide)) (fa0 9 (by decide))
    have hnt0 : NtM AL nt := fun q hq => by rw [fa0 42 (by decide)]; exact hnt q hq
    have hll : (l ++ cntY N).length = l.length + (cntY N).length := List.length_append
    have hlc : (cntY N).length ≤ 2 := by rw [cntY_len]; split <;> omega
    refine WX.s1 rfl rfl ?_
    refine WX.if_ rfl (fun c_71 => ?_) (fun c_71 => absurd (fun z => absurd ((nI_eq (a := N) (b := 0) (by omega) (by decide)).mp z) (by omega)) c_71)
    have K_IL_40 : IL 40 = nI (l ++ cntY N).length := hF0.1
    refine WX.s1 rfl rfl ?_
    refine WX.mgetK (x := (nI (l ++ cntY N).length)) rfl hm M_hL rfl K_IL_40 ?_
    refine WX.s1 (L' := [(0, .ref m), (1, .int (nI N)), (2, .int (nI (l ++ cntY N).length))]) rfl rfl ?_
    refine WX.s1 rfl rfl ?_
    refine WX.s1 rfl rfl ?_
    refine WX.callC (vs := [.ref m, .int (nI 0)]) rfl rfl rfl (Nat.le_of_ble_eq_true rfl) (M_hL.rcv hm) ?_
    refine m_sayL hm M_hL (l := (l ++ cntY N)) hF0 (by rw [List.length_append]; omega) (fun h82n1 I82n1 A82n1 fr82n1 M_h82n1 fi82n1 fa82n1 hFr => ?_)
    have FR_h82n1 := FR_hL.ztr fr82n1
    have K_I82n1_31 : I82n1 31 = (nI N) := (fi82n1 31 (by decide)).trans K_IL_31
    have FI_I82n1 : Fi I I82n1 (fun f => f = 38 ∨ f = 40) := FI_IL.zsub fi82n1 (fun j hj => by first | exact hj | omega)
    have FA_A82n1 : FaS AR A82n1 (fun b => b = 9 ∨ b = 10 ∨ b = 24 ∨ b = 25 ∨ (26 ≤ b ∧ b ≤ 33) ∨ b = 42) := FA_AL.ztr (fa82n1.toS (by omega))
    have hM0 : MadeIs I82n1 A82n1 c0 w0 := hMI.fa (fi82n1 38 (by decide)) (fa82n1 24 (by decide))
    replace hT1 := hT1.same (fa82n1 21 (by decide)) (fa82n1 22 (by decide)) (fa82n1 23 (by decide))
    replace hR1 := hR1.fa (fa82n1 10 (by decide)) (fa82n1 9 (by decide))
    replace hT2 := hT2.same (fa82n1 21 (by decide)) (fa82n1 22 (by decide)) (fa82n1 23 (by decide))
    replace hR2 := hR2.fa (fa82n1 10 (by decide)) (fa82n1 9 (by decide))
    replace hT3 := hT3.same (fa82n1 21 (by decide)) (fa82n1 22 (by decide)) (fa82n1 23 (by decide))
    replace hR3 := hR3.fa (fa82n1 10 (by decide)) (fa82n1 9 (by decide))
    have hntc : NtM A82n1 nt := fun q hq => by rw [fa82n1 42 (by decide)]; exact hnt0 q hq
    rw [show 0 % 256 = 0 from rfl] at hFr
    show WX _ _ _ 85 [(0, .ref m), (1, .int (nI N)), (2, .int (nI (l ++ cntY N).length))] [] (n, s, h82n1)
    refine WX.s1 rfl rfl ?_
    refine WX.s1 (L' := [(0, .ref m), (1, .int (nI N)), (2, .int (nI (l ++ cntY N).length)), (3, .int 0)]) rfl rfl ?_
    refine WX.s1 rfl rfl ?_
    refine WX.s1 (L' := [(0, .ref m), (1, .int (nI N)), (2, .int (nI (l ++ cntY N).length)), (3, .int (0 : Int32)), (4, .int 0)]) rfl rfl ?_
    refine WX.s1 rfl rfl ?_
    refine WX.s1 rfl rfl ?_
    refine WX.icmp rfl (fun c_93 => absurd c_93 (by decide)) (fun c_93 => ?_)
    clear c_93
    refine WX.s1 rfl rfl ?_
    refine WX.s1 rfl rfl ?_
    refine WX.callC (vs := [.ref m, .int (nI 0)]) rfl rfl rfl (Nat.le_of_ble_eq_true rfl) (M_h82n1.rcv hm) ?_
    refine m_sayTable (tb := 0) hm M_h82n1 (by decide) hok1 hs1 (hT1.sy (fun v => by have := (sy1_is v).1; omega)) hM0 hR1 hH1 hA1 (by rw [K_I82n1_31, List.length_map, hl1]) (fun hU0 IU0 AU0 frU0 M_hU0 fiU0 faU0 f10U0 f9U0 hRnU0 hMnU0 => ?_)
    have hmr : (chF (tKn 0) tH1 (gT 0) (vs1.map sy1)).1 = m1 := hm1.symm
    rw [hmr] at hMnU0 hRnU0 ⊢
    rw [show chT (tKn 0) tH1 (gT 0) (vs1.map sy1) m1 = t1 from ht1.symm] at hRnU0
    have FR_hU0 := FR_h82n1.ztr frU0
    have FI_IU0 : Fi I IU0 (fun f => f = 38 ∨ f = 40) := FI_I82n1.zsub fiU0 (fun j hj => Or.inl hj)
    have FA_AU0 : FaS AR AU0 (fun b => b = 9 ∨ b = 10 ∨ b = 24 ∨ b = 25 ∨ (26 ≤ b ∧ b ≤ 33) ∨ b = 42) := FA_A82n1.ztr (faU0.mono (fun x hx => by omega))
    have K_IU0_31 : IU0 31 = nI N := (fiU0 31 (by decide)).trans K_I82n1_31
    replace hT1 := hT1.same (faU0 21 (by decide)) (faU0 22 (by decide)) (faU0 23 (by decide))
    clear hR1
    have hR1 := hRnU0
    replace hT2 := hT2.same (faU0 21 (by decide)) (faU0 22 (by decide)) (faU0 23 (by decide))
    have hRx : RefT AU0 1 _ := hR2.ot (f10U0 _ (by decide)) (fun x hx => f9U0 _ (by omega))
    clear hR2
    have hR2 := hRx
    clear hRx
    replace hT3 := hT3.same (faU0 21 (by decide)) (faU0 22 (by decide)) (faU0 23 (by decide))
    have hRx : RefT AU0 2 _ := hR3.ot (f10U0 _ (by decide)) (fun x hx => f9U0 _ (by omega))
    clear hR3
    have hR3 := hRx
    clear hRx
    replace hFr := hFr.fa (fiU0 40 (by decide)) (faU0 25 (by decide))
    replace hntc : NtM AU0 _ := fun q hq => by rw [faU0 42 (by decide)]; exact hntc q hq
    clear M_h82n1 FR_h82n1 FI_I82n1 FA_A82n1 frU0 fiU0 faU0 f10U0 f9U0 K_I82n1_31 hmr
    show WX _ _ _ 102 [(0, .ref m), (1, .int (nI N)), (2, .int (nI (l ++ cntY N).length)), (3, .int (0 : Int32)), (4, .int 0)] [.int (nI m1)] (n, s, hU0)
    refine WX.s1 (L' := [(0, .ref m), (1, .int (nI N)), (2, .int (nI (l ++ cntY N).length)), (3, .int (0 : Int32)), (4, .int 0), (5, .int (nI m1))]) rfl rfl ?_
    refine WX.s1 rfl rfl ?_
    refine WX.callC (vs := [.ref m]) rfl rfl rfl (Nat.le_of_ble_eq_true rfl) (M_hU0.rcv hm) ?_
    refine m_sayMade hm M_hU0 hMnU0 hFr (by simp [List.length_append]; omega) hMnU0.1 (fun hS0 IS0 AS0 frS0 M_hS0 fiS0 faS0 hFn => ?_)
    rw [show leBy (mdB (vs1.map sy1) (gT 0) m1).2 ((mdB (vs1.map sy1) (gT 0) m1).1 / 8) = tbY (vs1.map sy1) 9 m1 from rfl] at hFn
    clear hFr
    have hFr := hFn
    clear hFn
    have hMc := hMnU0.fa (fiS0 38 (by decide)) (faS0 24 (by decide))
    clear hMnU0
    have FR_hS0 := FR_hU0.ztr frS0
    have FI_IS0 : Fi I IS0 (fun f => f = 38 ∨ f = 40) := FI_IU0.zsub fiS0 (fun j hj => Or.inr hj)
    have FA_AS0 : FaS AR AS0 (fun b => b = 9 ∨ b = 10 ∨ b = 24 ∨ b = 25 ∨ (26 ≤ b ∧ b ≤ 33) ∨ b = 42) := FA_AU0.ztr (faS0.toS (by omega))
    have K_IS0_31 : IS0 31 = nI N := (fiS0 31 (by decide)).trans K_IU0_31
    replace hT1 := hT1.same (faS0 21 (by decide)) (faS0 22 (by decide)) (faS0 23 (by decide))
    replace hR1 := hR1.fa (faS0 10 (by decide)) (faS0 9 (by decide))
    replace hT2 := hT2.same (faS0 21 (by decide)) (faS0 22 (by decide)) (faS0 23 (by decide))
    replace hR2 := hR2.fa (faS0 10 (by decide)) (faS0 9 (by decide))
    replace hT3 := hT3.same (faS0 21 (by decide)) (faS0 22 (by decide)) (faS0 23 (by decide))
    replace hR3 := hR3.fa (faS0 10 (by decide)) (faS0 9 (by decide))
    replace hntc : NtM AS0 _ := fun q hq => by rw [faS0 42 (by decide)]; exact hntc q hq
    clear M_hU0 FR_hU0 FI_IU0 FA_AU0 frS0 fiS0 faS0 K_IU0_31
    show WX _ _ _ 108 [(0, .ref m), (1, .int (nI N)), (2, .int (nI (l ++ cntY N).length)), (3, .int (0 : Int32)), (4, .int 0), (5, .int (nI m1))] [] (n, s, hS0)
    refine WX.s1 rfl rfl ?_
    refine WX.s1 rfl rfl ?_
    refine WX.s1 rfl rfl ?_
    refine WX.s1 rfl rfl ?_
    refine WX.s1 rfl rfl ?_
    refine WX.s1 (S' := [.int (2 * 0), .int 6, .int (nI m1), .int (0 : Int32)]) rfl rfl ?_
    refine WX.s1 (S' := [.int (6 - ((2 : Int32) * 0)), .int (nI m1), .int (0 : Int32)]) rfl rfl ?_
    refine WX.s1 (S' := [.int ((nI m1) <<< ((6 - ((2 : Int32) * 0)) &&& 31)), .int (0 : Int32)]) rfl rfl ?_
    refine WX.s1 (S' := [.int ((0 : Int32) ||| ((nI m1) <<< ((6 - ((2 : Int32) * 0)) &&& 31)))]) rfl rfl ?_
    refine WX.s1 (L' := [(0, .ref m), (1, .int (nI N)), (2, .int (nI (l ++ cntY N).length)), (3, .int ((0 : Int32) ||| ((nI m1) <<< ((6 - ((2 : Int32) * 0)) &&& 31)))), (4, .int 0), (5, .int (nI m1))]) rfl rfl ?_
    refine WX.s1 rfl rfl ?_
    refine WX.mget rfl hm M_hS0 rfl ?_
    refine WX.s1 rfl rfl ?_
    refine WX.s1 rfl rfl ?_
    refine WX.s1 (S' := [.int (8 + (nI m1)), .ref (m + 42)]) rfl rfl ?_
    rw [show (8 + (nI m1)) = nI (8 + m1) from nI_add 8 m1]
    refine WX.s1 rfl rfl ?_
    refine WX.mald (c := 42) rfl hm M_hS0 (by decide) (by decide) (by decide) (by decide) (vp_in_nI (N := 12) (by omega) (by decide)) ?_
    rw [nI_clamp (by omega), hntc _ (by omega)]
    refine WX.s1 rfl rfl ?_
    refine WX.s1 (S' := [.int ((nI (nt (8 + m1))) + 1), .int (nI (8 + m1)), .ref (m + 42)]) rfl rfl ?_
    rw [show ((nI (nt (8 + m1))) + 1) = nI (nt (8 + m1) + 1) from nI_add (nt (8 + m1)) 1]
    refine WX.mast (c := 42) rfl hm M_hS0 (by decide) (by decide) (by decide) (by decide) (vp_in_nI (N := 12) (by omega) (by decide)) (fun h134n2 A134n2 e_A134n2 M_h134n2 frh134n2 => ?_)
    try dsimp only at e_A134n2
    have FR_h134n2 := FR_hS0.ztr frh134n2
    clear M_hS0 FR_hS0 frh134n2
    rw [nI_clamp (by omega)] at e_A134n2
    replace hntc := hntc.zup e_A134n2
    replace hFr := hFr.fa (J := IS0) (B := A134n2) rfl (by rw [e_A134n2, upA_ne (by decide)])
    replace hMc := hMc.fa (J := IS0) (B := A134n2) rfl (by rw [e_A134n2, upA_ne (by decide)])
    replace hT1 := hT1.same (A2 := A134n2) (by rw [e_A134n2, upA_ne (by decide)]) (by rw [e_A134n2, upA_ne (by decide)]) (by rw [e_A134n2, upA_ne (by decide)])
    replace hR1 := hR1.fa (B := A134n2) (by rw [e_A134n2, upA_ne (by decide)]) (by rw [e_A134n2, upA_ne (by decide)])
    replace hT2 := hT2.same (A2 := A134n2) (by rw [e_A134n2, upA_ne (by decide)]) (by rw [e_A134n2, upA_ne (by decide)]) (by rw [e_A134n2, upA_ne (by decide)])
    replace hR2 := hR2.fa (B := A134n2) (by rw [e_A134n2, upA_ne (by decide)]) (by rw [e_A134n2, upA_ne (by decide)])
    replace hT3 := hT3.same (A2 := A134n2) (by rw [e_A134n2, upA_ne (by decide)]) (by rw [e_A134n2, upA_ne (by decide)]) (by rw [e_A134n2, upA_ne (by decide)])
    replace hR3 := hR3.fa (B := A134n2) (by rw [e_A134n2, upA_ne (by decide)]) (by rw [e_A134n2, upA_ne (by decide)])
    have FA_A134n2 : FaS AR A134n2 (fun b => b = 9 ∨ b = 10 ∨ b = 24 ∨ b = 25 ∨ (26 ≤ b ∧ b ≤ 33) ∨ b = 42) := FA_AS0.ast e_A134n2 (by omega)
    clear FA_AS0 e_A134n2
    refine WX.s1 (L' := [(0, .ref m), (1, .int (nI N)), (2, .int (nI (l ++ cntY N).length)), (3, .int ((0 : Int32) ||| ((nI m1) <<< ((6 - ((2 : Int32) * 0)) &&& 31)))), (4, .int (0 + 1)), (5, .int (nI m1))]) rfl rfl ?_
    rw [show ((0 : Int32) + 1) = 1 from rfl]
    refine WX.keep (y := 202) [0, 1, 2, 3, 4] (show ([0, 1, 2, 3, 4, 5] : List Nat).Nodup by decide) rfl ?_
    refine WX.s1 rfl rfl ?_
    refine WX.s1 rfl rfl ?_
    refine WX.s1 rfl rfl ?_
    refine WX.icmp rfl (fun c_93 => absurd c_93 (by decide)) (fun c_93 => ?_)
    clear c_93
    refine WX.s1 rfl rfl ?_
    refine WX.s1 rfl rfl ?_
    refine WX.callC (vs := [.ref m, .int (nI 1)]) rfl rfl rfl (Nat.le_of_ble_eq_true rfl) (M_h134n2.rcv hm) ?_
    refine m_sayTable (tb := 1) hm M_h134n2 (by decide) hok2 hs2 (hT2.sy (fun v => by have := (sy2_is v).1; omega)) hMc hR2 hH2 hA2 (by rw [K_IS0_31, List.length_map, hl2]) (fun hU1 IU1 AU1 frU1 M_hU1 fiU1 faU1 f10U1 f9U1 hRnU1 hMnU1 => ?_)
    have hmr : (chF (tKn 1) tH2 (gT 1) (vs2.map sy2)).1 = m2 := hm2.symm
    rw [hmr] at hMnU1 hRnU1 ⊢
    rw [show chT (tKn 1) tH2 (gT 1) (vs2.map sy2) m2 = t2 from ht2.symm] at hRnU1
    have FR_hU1 := FR_h134n2.ztr frU1
    have FI_IU1 : Fi I IU1 (fun f => f = 38 ∨ f = 40) := FI_IS0.zsub fiU1 (fun j hj => Or.inl hj)
    have FA_AU1 : FaS AR AU1 (fun b => b = 9 ∨ b = 10 ∨ b = 24 ∨ b = 25 ∨ (26 ≤ b ∧ b ≤ 33) ∨ b = 42) := FA_A134n2.ztr (faU1.mono (fun x hx => by omega))
    have K_IU1_31 : IU1 31 = nI N := (fiU1 31 (by decide)).trans K_IS0_31
    replace hT1 := hT1.same (faU1 21 (by decide)) (faU1 22 (by decide)) (faU1 23 (by decide))
    have hRx : RefT AU1 0 _ := hR1.ot (f10U1 _ (by decide)) (fun x hx => f9U1 _ (by omega))
    clear hR1
    have hR1 := hRx
    clear hRx
    replace hT2 := hT2.same (faU1 21 (by decide)) (faU1 22 (by decide)) (faU1 23 (by decide))
    clear hR2
    have hR2 := hRnU1
    replace hT3 := hT3.same (faU1 21 (by decide)) (faU1 22 (by decide)) (faU1 23 (by decide))
    have hRx : RefT AU1 2 _ := hR3.ot (f10U1 _ (by decide)) (fun x hx => f9U1 _ (by omega))
    clear hR3
    have hR3 := hRx
    clear hRx
    replace hFr := hFr.fa (fiU1 40 (by decide)) (faU1 25 (by decide))
    replace hntc : NtM AU1 _ := fun q hq => by rw [faU1 42 (by decide)]; exact hntc q hq
    clear M_h134n2 FR_h134n2 FI_IS0 FA_A134n2 frU1 fiU1 faU1 f10U1 f9U1 K_IS0_31 hmr
    clear hMc
    show WX _ _ _ 102 [(0, .ref m), (1, .int (nI N)), (2, .int (nI (l ++ cntY N).length)), (3, .int ((0 : Int32) ||| ((nI m1) <<< ((6 - ((2 : Int32) * 0)) &&& 31)))), (4, .int 1)] [.int (nI m2)] (n, s, hU1)
    refine WX.s1 (L' := [(0, .ref m), (1, .int (nI N)), (2, .int (nI (l ++ cntY N).length)), (3, .int ((0 : Int32) ||| ((nI m1) <<< ((6 - ((2 : Int32) * 0)) &&& 31)))), (4, .int 1), (5, .int (nI m2))]) rfl rfl ?_
    refine WX.s1 rfl rfl ?_
    refine WX.callC (vs := [.ref m]) rfl rfl rfl (Nat.le_of_ble_eq_true rfl) (M_hU1.rcv hm) ?_
    refine m_sayMade hm M_hU1 hMnU1 hFr (by simp [List.length_append]; omega) hMnU1.1 (fun hS1 IS1 AS1 frS1 M_hS1 fiS1 faS1 hFn => ?_)
    rw [show leBy (mdB (vs2.map sy2) (gT 1) m2).2 ((mdB (vs2.map sy2) (gT 1) m2).1 / 8) = tbY (vs2.map sy2) 8 m2 from rfl] at hFn
    clear hFr
    have hFr := hFn
    clear hFn
    have hMc := hMnU1.fa (fiS1 38 (by decide)) (faS1 24 (by decide))
    clear hMnU1
    have FR_hS1 := FR_hU1.ztr frS1
    have FI_IS1 : Fi I IS1 (fun f => f = 38 ∨ f = 40) := FI_IU1.zsub fiS1 (fun j hj => Or.inr hj)
    have FA_AS1 : FaS AR AS1 (fun b => b = 9 ∨ b = 10 ∨ b = 24 ∨ b = 25 ∨ (26 ≤ b ∧ b ≤ 33) ∨ b = 42) := FA_AU1.ztr (faS1.toS (by omega))
    have K_IS1_31 : IS1 31 = nI N := (fiS1 31 (by decide)).trans K_IU1_31
    replace hT1 := hT1.same (faS1 21 (by decide)) (faS1 22 (by decide)) (faS1 23 (by decide))
    replace hR1 := hR1.fa (faS1 10 (by decide)) (faS1 9 (by decide))
    replace hT2 := hT2.same (faS1 21 (by decide)) (faS1 22 (by decide)) (faS1 23 (by decide))
    replace hR2 := hR2.fa (faS1 10 (by decide)) (faS1 9 (by decide))
    replace hT3 := hT3.same (faS1 21 (by decide)) (faS1 22 (by decide)) (faS1 23 (by decide))
    replace hR3 := hR3.fa (faS1 10 (by decide)) (faS1 9 (by decide))
    replace hntc : NtM AS1 _ := fun q hq => by rw [faS1 42 (by decide)]; exact hntc q hq
    clear M_hU1 FR_hU1 FI_IU1 FA_AU1 frS1 fiS1 faS1 K_IU1_31
    show WX _ _ _ 108 [(0, .ref m), (1, .int (nI N)), (2, .int (nI (l ++ cntY N).length)), (3, .int ((0 : Int32) ||| ((nI m1) <<< ((6 - ((2 : Int32) * 0)) &&& 31)))), (4, .int 1), (5, .int (nI m2))] [] (n, s, hS1)
    refine WX.s1 rfl rfl ?_
    refine WX.s1 rfl rfl ?_
    refine WX.s1 rfl rfl ?_
    refine WX.s1 rfl rfl ?_
    refine WX.s1 rfl rfl ?_
    refine WX.s1 (S' := [.int (2 * 1), .int 6, .int (nI m2), .int ((0 : Int32) ||| ((nI m1) <<< ((6 - ((2 : Int32) * 0)) &&& 31)))]) rfl rfl ?_
    refine WX.s1 (S' := [.int (6 - ((2 : Int32) * 1)), .int (nI m2), .int ((0 : Int32) ||| ((nI m1) <<< ((6 - ((2 : Int32) * 0)) &&& 31)))]) rfl rfl ?_
    refine WX.s1 (S' := [.int ((nI m2) <<< ((6 - ((2 : Int32) * 1)) &&& 31)), .int ((0 : Int32) ||| ((nI m1) <<< ((6 - ((2 : Int32) * 0)) &&& 31)))]) rfl rfl ?_
    refine WX.s1 (S' := [.int (((0 : Int32) ||| ((nI m1) <<< ((6 - ((2 : Int32) * 0)) &&& 31))) ||| ((nI m2) <<< ((6 - ((2 : Int32) * 1)) &&& 31)))]) rfl rfl ?_
    refine WX.s1 (L' := [(0, .ref m), (1, .int (nI N)), (2, .int (nI (l ++ cntY N).length)), (3, .int (((0 : Int32) ||| ((nI m1) <<< ((6 - ((2 : Int32) * 0)) &&& 31))) ||| ((nI m2) <<< ((6 - ((2 : Int32) * 1)) &&& 31)))), (4, .int 1), (5, .int (nI m2))]) rfl rfl ?_
    refine WX.s1 rfl rfl ?_
    refine WX.mget rfl hm M_hS1 rfl ?_
    refine WX.s1 rfl rfl ?_
    refine WX.s1 rfl rfl ?_
    refine WX.s1 (S' := [.int (8 + (nI m2)), .ref (m + 42)]) rfl rfl ?_
    rw [show (8 + (nI m2)) = nI (8 + m2) from nI_add 8 m2]
    refine WX.s1 rfl rfl ?_
    refine WX.mald (c := 42) rfl hm M_hS1 (by decide) (by decide) (by decide) (by decide) (vp_in_nI (N := 12) (by omega) (by decide)) ?_
    rw [nI_clamp (by omega), hntc _ (by omega)]
    refine WX.s1 rfl rfl ?_
    refine WX.s1 (S' := [.int ((nI ((cntN nt (8 + m1)) (8 + m2))) + 1), .int (nI (8 + m2)), .ref (m + 42)]) rfl rfl ?_
    rw [show ((nI ((cntN nt (8 + m1)) (8 + m2))) + 1) = nI ((cntN nt (8 + m1)) (8 + m2) + 1) from nI_add ((cntN nt (8 + m1)) (8 + m2)) 1]
    refine WX.mast (c := 42) rfl hm M_hS1 (by decide) (by decide) (by decide) (by decide) (vp_in_nI (N := 12) (by omega) (by decide)) (fun h134n3 A134n3 e_A134n3 M_h134n3 frh134n3 => ?_)
    try dsimp only at e_A134n3
    have FR_h134n3 := FR_hS1.ztr frh134n3
    clear M_hS1 FR_hS1 frh134n3
    rw [nI_clamp (by omega)] at e_A134n3
    replace hntc := hntc.zup e_A134n3
    replace hFr := hFr.fa (J := IS1) (B := A134n3) rfl (by rw [e_A134n3, upA_ne (by decide)])
    replace hMc := hMc.fa (J := IS1) (B := A134n3) rfl (by rw [e_A134n3, upA_ne (by decide)])
    replace hT1 := hT1.same (A2 := A134n3) (by rw [e_A134n3, upA_ne (by decide)]) (by rw [e_A134n3, upA_ne (by decide)]) (by rw [e_A134n3, upA_ne (by decide)])
    replace hR1 := hR1.fa (B := A134n3) (by rw [e_A134n3, upA_ne (by decide)]) (by rw [e_A134n3, upA_ne (by decide)])
    replace hT2 := hT2.same (A2 := A134n3) (by rw [e_A134n3, upA_ne (by decide)]) (by rw [e_A134n3, upA_ne (by decide)]) (by rw [e_A134n3, upA_ne (by decide)])
    replace hR2 := hR2.fa (B := A134n3) (by rw [e_A134n3, upA_ne (by decide)]) (by rw [e_A134n3, upA_ne (by decide)])
    replace hT3 := hT3.same (A2 := A134n3) (by rw [e_A134n3, upA_ne (by decide)]) (by rw [e_A134n3, upA_ne (by decide)]) (by rw [e_A134n3, upA_ne (by decide)])
    replace hR3 := hR3.fa (B := A134n3) (by rw [e_A134n3, upA_ne (by decide)]) (by rw [e_A134n3, upA_ne (by decide)])
    have FA_A134n3 : FaS AR A134n3 (fun b => b = 9 ∨ b = 10 ∨ b = 24 ∨ b = 25 ∨ (26 ≤ b ∧ b ≤ 33) ∨ b = 42) := FA_AS1.ast e_A134n3 (by omega)
    clear FA_AS1 e_A134n3
    refine WX.s1 (L' := [(0, .ref m), (1, .int (nI N)), (2, .int (nI (l ++ cntY N).length)), (3, .int (((0 : Int32) ||| ((nI m1) <<< ((6 - ((2 : Int32) * 0)) &&& 31))) ||| ((nI m2) <<< ((6 - ((2 : Int32) * 1)) &&& 31)))), (4, .int (1 + 1)), (5, .int (nI m2))]) rfl rfl ?_
    rw [show ((1 : Int32) + 1) = 2 from rfl]
    refine WX.keep (y := 202) [0, 1, 2, 3, 4] (show ([0, 1, 2, 3, 4, 5] : List Nat).Nodup by decide) rfl ?_
    refine WX.s1 rfl rfl ?_
    refine WX.s1 rfl rfl ?_
    refine WX.s1 rfl rfl ?_
    refine WX.icmp rfl (fun c_93 => absurd c_93 (by decide)) (fun c_93 => ?_)
    clear c_93
    refine WX.s1 rfl rfl ?_
    refine WX.s1 rfl rfl ?_
    refine WX.callC (vs := [.ref m, .int (nI 2)]) rfl rfl rfl (Nat.le_of_ble_eq_true rfl) (M_h134n3.rcv hm) ?_
    refine m_sayTable (tb := 2) hm M_h134n3 (by decide) hok3 hs3 (hT3.sy (fun v => by have := (sy3_is v).1; omega)) hMc hR3 hH3 hA3 (by rw [K_IS1_31, List.length_map, hl3]) (fun hU2 IU2 AU2 frU2 M_hU2 fiU2 faU2 f10U2 f9U2 hRnU2 hMnU2 => ?_)
    have hmr : (chF (tKn 2) tH3 (gT 2) (vs3.map sy3)).1 = m3 := hm3.symm
    rw [hmr] at hMnU2 hRnU2 ⊢
    rw [show chT (tKn 2) tH3 (gT 2) (vs3.map sy3) m3 = t3 from ht3.symm] at hRnU2
    have FR_hU2 := FR_h134n3.ztr frU2
    have FI_IU2 : Fi I IU2 (fun f => f = 38 ∨ f = 40) := FI_IS1.zsub fiU2 (fun j hj => Or.inl hj)
    have FA_AU2 : FaS AR AU2 (fun b => b = 9 ∨ b = 10 ∨ b = 24 ∨ b = 25 ∨ (26 ≤ b ∧ b ≤ 33) ∨ b = 42) := FA_A134n3.ztr (faU2.mono (fun x hx => by omega))
    have K_IU2_31 : IU2 31 = nI N := (fiU2 31 (by decide)).trans K_IS1_31
    replace hT1 := hT1.same (faU2 21 (by decide)) (faU2 22 (by decide)) (faU2 23 (by decide))
    have hRx : RefT AU2 0 _ := hR1.ot (f10U2 _ (by decide)) (fun x hx => f9U2 _ (by omega))
    clear hR1
    have hR1 := hRx
    clear hRx
    replace hT2 := hT2.same (faU2 21 (by decide)) (faU2 22 (by decide)) (faU2 23 (by decide))
    have hRx : RefT AU2 1 _ := hR2.ot (f10U2 _ (by decide)) (fun x hx => f9U2 _ (by omega))
    clear hR2
    have hR2 := hRx
    clear hRx
    replace hT3 := hT3.same (faU2 21 (by decide)) (faU2 22 (by decide)) (faU2 23 (by decide))
    clear hR3
    have hR3 := hRnU2
    replace hFr := hFr.fa (fiU2 40 (by decide)) (faU2 25 (by decide))
    replace hntc : NtM AU2 _ := fun q hq => by rw [faU2 42 (by decide)]; exact hntc q hq
    clear M_h134n3 FR_h134n3 FI_IS1 FA_A134n3 frU2 fiU2 faU2 f10U2 f9U2 K_IS1_31 hmr
    clear hMc
    show WX _ _ _ 102 [(0, .ref m), (1, .int (nI N)), (2, .int (nI (l ++ cntY N).length)), (3, .int (((0 : Int32) ||| ((nI m1) <<< ((6 - ((2 : Int32) * 0)) &&& 31))) ||| ((nI m2) <<< ((6 - ((2 : Int32) * 1)) &&& 31)))), (4, .int 2)] [.int (nI m3)] (n, s, hU2)
    refine WX.s1 (L' := [(0, .ref m), (1, .int (nI N)), (2, .int (nI (l ++ cntY N).length)), (3, .int (((0 : Int32) ||| ((nI m1) <<< ((6 - ((2 : Int32) * 0)) &&& 31))) ||| ((nI m2) <<< ((6 - ((2 : Int32) * 1)) &&& 31)))), (4, .int 2), (5, .int (nI m3))]) rfl rfl ?_
    refine WX.s1 rfl rfl ?_
    refine WX.callC (vs := [.ref m]) rfl rfl rfl (Nat.le_of_ble_eq_true rfl) (M_hU2.rcv hm) ?_
    refine m_sayMade hm M_hU2 hMnU2 hFr (by simp [List.length_append]; omega) hMnU2.1 (fun hS2 IS2 AS2 frS2 M_hS2 fiS2 faS2 hFn => ?_)
    rw [show leBy (mdB (vs3.map sy3) (gT 2) m3).2 ((mdB (vs3.map sy3) (gT 2) m3).1 / 8) = tbY (vs3.map sy3) 9 m3 from rfl] at hFn
    clear hFr
    have hFr := hFn
    clear hFn
    have hMc := hMnU2.fa (fiS2 38 (by decide)) (faS2 24 (by decide))
    clear hMnU2
    have FR_hS2 := FR_hU2.ztr frS2
    have FI_IS2 : Fi I IS2 (fun f => f = 38 ∨ f = 40) := FI_IU2.zsub fiS2 (fun j hj => Or.inr hj)
    have FA_AS2 : FaS AR AS2 (fun b => b = 9 ∨ b = 10 ∨ b = 24 ∨ b = 25 ∨ (26 ≤ b ∧ b ≤ 33) ∨ b = 42) := FA_AU2.ztr (faS2.toS (by omega))
    have K_IS2_31 : IS2 31 = nI N := (fiS2 31 (by decide)).trans K_IU2_31
    replace hT1 := hT1.same (faS2 21 (by decide)) (faS2 22 (by decide)) (faS2 23 (by decide))
    replace hR1 := hR1.fa (faS2 10 (by decide)) (faS2 9 (by decide))
    replace hT2 := hT2.same (faS2 21 (by decide)) (faS2 22 (by decide)) (faS2 23 (by decide))
    replace hR2 := hR2.fa (faS2 10 (by decide)) (faS2 9 (by decide))
    replace hT3 := hT3.same (faS2 21 (by decide)) (faS2 22 (by decide)) (faS2 23 (by decide))
    replace hR3 := hR3.fa (faS2 10 (by decide)) (faS2 9 (by decide))
    replace hntc : NtM AS2 _ := fun q hq => by rw [faS2 42 (by decide)]; exact hntc q hq
    clear M_hU2 FR_hU2 FI_IU2 FA_AU2 frS2 fiS2 faS2 K_IU2_31
    show WX _ _ _ 108 [(0, .ref m), (1, .int (nI N)), (2, .int (nI (l ++ cntY N).length)), (3, .int (((0 : Int32) ||| ((nI m1) <<< ((6 - ((2 : Int32) * 0)) &&& 31))) ||| ((nI m2) <<< ((6 - ((2 : Int32) * 1)) &&& 31)))), (4, .int 2), (5, .int (nI m3))] [] (n, s, hS2)
    refine WX.s1 rfl rfl ?_
    refine WX.s1 rfl rfl ?_
    refine WX.s1 rfl rfl ?_
    refine WX.s1 rfl rfl ?_
    refine WX.s1 rfl rfl ?_
    refine WX.s1 (S' := [.int (2 * 2), .int 6, .int (nI m3), .int (((0 : Int32) ||| ((nI m1) <<< ((6 - ((2 : Int32) * 0)) &&& 31))) ||| ((nI m2) <<< ((6 - ((2 : Int32) * 1)) &&& 31)))]) rfl rfl ?_
    refine WX.s1 (S' := [.int (6 - ((2 : Int32) * 2)), .int (nI m3), .int (((0 : Int32) ||| ((nI m1) <<< ((6 - ((2 : Int32) * 0)) &&& 31))) ||| ((nI m2) <<< ((6 - ((2 : Int32) * 1)) &&& 31)))]) rfl rfl ?_
    refine WX.s1 (S' := [.int ((nI m3) <<< ((6 - ((2 : Int32) * 2)) &&& 31)), .int (((0 : Int32) ||| ((nI m1) <<< ((6 - ((2 : Int32) * 0)) &&& 31))) ||| ((nI m2) <<< ((6 - ((2 : Int32) * 1)) &&& 31)))]) rfl rfl ?_
    refine WX.s1 (S' := [.int ((((0 : Int32) ||| ((nI m1) <<< ((6 - ((2 : Int32) * 0)) &&& 31))) ||| ((nI m2) <<< ((6 - ((2 : Int32) * 1)) &&& 31))) ||| ((nI m3) <<< ((6 - ((2 : Int32) * 2)) &&& 31)))]) rfl rfl ?_
    refine WX.s1 (L' := [(0, .ref m), (1, .int (nI N)), (2, .int (nI (l ++ cntY N).length)), (3, .int ((((0 : Int32) ||| ((nI m1) <<< ((6 - ((2 : Int32) * 0)) &&& 31))) ||| ((nI m2) <<< ((6 - ((2 : Int32) * 1)) &&& 31))) ||| ((nI m3) <<< ((6 - ((2 : Int32) * 2)) &&& 31)))), (4, .int 2), (5, .int (nI m3))]) rfl rfl ?_
    refine WX.s1 rfl rfl ?_
    refine WX.mget rfl hm M_hS2 rfl ?_
    refine WX.s1 rfl rfl ?_
    refine WX.s1 rfl rfl ?_
    refine WX.s1 (S' := [.int (8 + (nI m3)), .ref (m + 42)]) rfl rfl ?_
    rw [show (8 + (nI m3)) = nI (8 + m3) from nI_add 8 m3]
    refine WX.s1 rfl rfl ?_
    refine WX.mald (c := 42) rfl hm M_hS2 (by decide) (by decide) (by decide) (by decide) (vp_in_nI (N := 12) (by omega) (by decide)) ?_
    rw [nI_clamp (by omega), hntc _ (by omega)]
    refine WX.s1 rfl rfl ?_
    refine WX.s1 (S' := [.int ((nI ((cntN (cntN nt (8 + m1)) (8 + m2)) (8 + m3))) + 1), .int (nI (8 + m3)), .ref (m + 42)]) rfl rfl ?_
    rw [show ((nI ((cntN (cntN nt (8 + m1)) (8 + m2)) (8 + m3))) + 1) = nI ((cntN (cntN nt (8 + m1)) (8 + m2)) (8 + m3) + 1) from nI_add ((cntN (cntN nt (8 + m1)) (8 + m2)) (8 + m3)) 1]
    refine WX.mast (c := 42) rfl hm M_hS2 (by decide) (by decide) (by decide) (by decide) (vp_in_nI (N := 12) (by omega) (by decide)) (fun h134n4 A134n4 e_A134n4 M_h134n4 frh134n4 => ?_)
    try dsimp only at e_A134n4
    have FR_h134n4 := FR_hS2.ztr frh134n4
    clear M_hS2 FR_hS2 frh134n4
    rw [nI_clamp (by omega)] at e_A134n4
    replace hntc := hntc.zup e_A134n4
    replace hFr := hFr.fa (J := IS2) (B := A134n4) rfl (by rw [e_A134n4, upA_ne (by decide)])
    replace hMc := hMc.fa (J := IS2) (B := A134n4) rfl (by rw [e_A134n4, upA_ne (by decide)])
    replace hT1 := hT1.same (A2 := A134n4) (by rw [e_A134n4, upA_ne (by decide)]) (by rw [e_A134n4, upA_ne (by decide)]) (by rw [e_A134n4, upA_ne (by decide)])
    replace hR1 := hR1.fa (B := A134n4) (by rw [e_A134n4, upA_ne (by decide)]) (by rw [e_A134n4, upA_ne (by decide)])
    replace hT2 := hT2.same (A2 := A134n4) (by rw [e_A134n4, upA_ne (by decide)]) (by rw [e_A134n4, upA_ne (by decide)]) (by rw [e_A134n4, upA_ne (by decide)])
    replace hR2 := hR2.fa (B := A134n4) (by rw [e_A134n4, upA_ne (by decide)]) (by rw [e_A134n4, upA_ne (by decide)])
    replace hT3 := hT3.same (A2 := A134n4) (by rw [e_A134n4, upA_ne (by decide)]) (by rw [e_A134n4, upA_ne (by decide)]) (by rw [e_A134n4, upA_ne (by decide)])
    replace hR3 := hR3.fa (B := A134n4) (by rw [e_A134n4, upA_ne (by decide)]) (by rw [e_A134n4, upA_ne (by decide)])
    have FA_A134n4 : FaS AR A134n4 (fun b => b = 9 ∨ b = 10 ∨ b = 24 ∨ b = 25 ∨ (26 ≤ b ∧ b ≤ 33) ∨ b = 42) := FA_AS2.ast e_A134n4 (by omega)
    clear FA_AS2 e_A134n4
    refine WX.s1 (L' := [(0, .ref m), (1, .int (nI N)), (2, .int (nI (l ++ cntY N).length)), (3, .int ((((0 : Int32) ||| ((nI m1) <<< ((6 - ((2 : Int32) * 0)) &&& 31))) ||| ((nI m2) <<< ((6 - ((2 : Int32) * 1)) &&& 31))) ||| ((nI m3) <<< ((6 - ((2 : Int32) * 2)) &&& 31)))), (4, .int (2 + 1)), (5, .int (nI m3))]) rfl rfl ?_
    rw [show ((2 : Int32) + 1) = 3 from rfl]
    refine WX.keep (y := 202) [0, 1, 2, 3, 4] (show ([0, 1, 2, 3, 4, 5] : List Nat).Nodup by decide) rfl ?_
    refine WX.s1 rfl rfl ?_
    refine WX.s1 rfl rfl ?_
    refine WX.s1 rfl rfl ?_
    refine WX.icmp rfl (fun c_93 => ?_) (fun c_93 => absurd (by decide) c_93)
    clear c_93
    rw [show ((((0 : Int32) ||| (nI m1 <<< ((6 - ((2 : Int32) * 0)) &&& 31))) ||| (nI m2 <<< ((6 - ((2 : Int32) * 1)) &&& 31))) ||| (nI m3 <<< ((6 - ((2 : Int32) * 2)) &&& 31))) = nI (64 * m1 + 16 * m2 + 4 * m3) from or3 m1 (by omega) m2 (by omega) m3 (by omega)]
    refine WX.keep (y := 202) [0, 1, 2, 3] (show ([0, 1, 2, 3, 4] : List Nat).Nodup by decide) rfl ?_
    have hFs : FrameIs IS2 A134n4 ((l ++ cntY N) ++ 0 :: (tbY (vs1.map sy1) 9 m1 ++ (tbY (vs2.map sy2) 8 m2 ++ tbY (vs3.map sy3) 9 m3))) := by simpa [List.append_assoc] using hFr
    refine WX.s1 rfl rfl ?_
    refine WX.s1 rfl rfl ?_
    refine WX.icmp rfl (fun c_145 => ?_) (fun c_145 => ?_)
    · skip
      have n_145 : 12000 ≤ ((l ++ cntY N).length) := (nI_leI (a := 12000) (b := (l ++ cntY N).length) (by omega) (by omega)).mp c_145
      have hFt : FrameIs IS2 A134n4 ((l ++ cntY N) ++ (64 * m1 + 16 * m2 + 4 * m3) :: (tbY (vs1.map sy1) 9 m1 ++ (tbY (vs2.map sy2) 8 m2 ++ tbY (vs3.map sy3) 9 m3))) := hFs.put_far n_145
      refine WX.s1 rfl rfl ?_
      refine WX.callC (vs := [.ref m]) rfl rfl rfl (Nat.le_of_ble_eq_true rfl) (M_h134n4.rcv hm) ?_
      refine m_sayStream hm M_h134n4 hcv1.2.1 hcv2.2.1 hcv3.2.1 hN hN2 hT1.mo hT2.mo hT3.mo hR1 hR2 hR3 hMc hFt (by simp [List.length_append]; omega) K_IS2_31 (fun h9 I9 A9 c9 w9 fr9 M_h9 fi9 fa9 hM9 hF9 => ?_)
      refine WX.ret0 rfl (kk h9 I9 A9 c9 w9 (FR_h134n4.ztr fr9) M_h9 (FI_IS2.ztr fi9) (FA_A134n4.ztr (fa9.mono (fun x hx => by omega))) hM9 ?_ (fun q hq => by rw [fa9 42 (by decide)]; exact hntc q hq) (hR1.fa (fa9 10 (by decide)) (fa9 9 (by decide))) (hR2.fa (fa9 10 (by decide)) (fa9 9 (by decide))) (hR3.fa (fa9 10 (by decide)) (fa9 9 (by decide))))
      unfold sqY
      simpa [List.append_assoc] using hF9
    · skip
      have n_145 : ((l ++ cntY N).length) < 12000 := Nat.lt_of_not_le (fun zz_ => c_145 ((nI_leI (a := 12000) (b := (l ++ cntY N).length) (by omega) (by omega)).mpr zz_))
      refine WX.s1 rfl rfl ?_
      refine WX.mget rfl hm M_h134n4 rfl ?_
      refine WX.s1 rfl rfl ?_
      refine WX.s1 rfl rfl ?_
      refine WX.mast (c := 25) rfl hm M_h134n4 (by decide) (by decide) (by decide) (by decide) (vp_in_nI (N := 12000) (by omega) (by decide)) (fun h154n5 A154n5 e_A154n5 M_h154n5 frh154n5 => ?_)
      try dsimp only at e_A154n5
      have FR_h154n5 := FR_h134n4.ztr frh154n5
      clear M_h134n4 FR_h134n4 frh154n5
      rw [nI_clamp (by omega)] at e_A154n5
      have hFt : FrameIs IS2 A154n5 ((l ++ cntY N) ++ (64 * m1 + 16 * m2 + 4 * m3) :: (tbY (vs1.map sy1) 9 m1 ++ (tbY (vs2.map sy2) 8 m2 ++ tbY (vs3.map sy3) 9 m3))) := hFs.put_ (by rw [e_A154n5, upA_same])
      replace hMc := hMc.fa (J := IS2) (B := A154n5) rfl (by rw [e_A154n5, upA_ne (by decide)])
      replace hntc : NtM A154n5 _ := fun q hq => by rw [e_A154n5, upA_ne (by decide)]; exact hntc q hq
      replace hT1 := hT1.same (A2 := A154n5) (by rw [e_A154n5, upA_ne (by decide)]) (by rw [e_A154n5, upA_ne (by decide)]) (by rw [e_A154n5, upA_ne (by decide)])
      replace hR1 := hR1.fa (B := A154n5) (by rw [e_A154n5, upA_ne (by decide)]) (by rw [e_A154n5, upA_ne (by decide)])
      replace hT2 := hT2.same (A2 := A154n5) (by rw [e_A154n5, upA_ne (by decide)]) (by rw [e_A154n5, upA_ne (by decide)]) (by rw [e_A154n5, upA_ne (by decide)])
      replace hR2 := hR2.fa (B := A154n5) (by rw [e_A154n5, upA_ne (by decide)]) (by rw [e_A154n5, upA_ne (by decide)])
      replace hT3 := hT3.same (A2 := A154n5) (by rw [e_A154n5, upA_ne (by decide)]) (by rw [e_A154n5, upA_ne (by decide)]) (by rw [e_A154n5, upA_ne (by decide)])
      replace hR3 := hR3.fa (B := A154n5) (by rw [e_A154n5, upA_ne (by decide)]) (by rw [e_A154n5, upA_ne (by decide)])
      have FA_A154n5 : FaS AR A154n5 (fun b => b = 9 ∨ b = 10 ∨ b = 24 ∨ b = 25 ∨ (26 ≤ b ∧ b ≤ 33) ∨ b = 42) := FA_A134n4.ast e_A154n5 (by omega)
      refine WX.s1 rfl rfl ?_
      refine WX.callC (vs := [.ref m]) rfl rfl rfl (Nat.le_of_ble_eq_true rfl) (M_h154n5.rcv hm) ?_
      refine m_sayStream hm M_h154n5 hcv1.2.1 hcv2.2.1 hcv3.2.1 hN hN2 hT1.mo hT2.mo hT3.mo hR1 hR2 hR3 hMc hFt (by simp [List.length_append]; omega) K_IS2_31 (fun h9 I9 A9 c9 w9 fr9 M_h9 fi9 fa9 hM9 hF9 => ?_)
      refine WX.ret0 rfl (kk h9 I9 A9 c9 w9 (FR_h154n5.ztr fr9) M_h9 (FI_IS2.ztr fi9) (FA_A154n5.ztr (fa9.mono (fun x hx => by omega))) hM9 ?_ (fun q hq => by rw [fa9 42 (by decide)]; exact hntc q hq) (hR1.fa (fa9 10 (by decide)) (fa9 9 (by decide))) (hR2.fa (fa9 10 (by decide)) (fa9 9 (by decide))) (hR3.fa (fa9 10 (by decide)) (fa9 9 (by decide))))
      unfold sqY
      simpa [List.append_assoc] using hF9
  have FA0 : FaS AR AR (fun b => b = 25) := FaS.rf
  clear FA_AR
  have FA_AR := FA0
  refine WX.s1 rfl rfl ?_
  refine WX.s1 rfl rfl ?_
  refine WX.icmp rfl (fun c_9 => ?_) (fun c_9 => ?_)
  · skip
    have n_9 : 128 ≤ N := (nI_leI (a := 128) (b := N) (by omega) (by omega)).mp c_9
    refine WX.s1 rfl rfl ?_
    refine WX.s1 rfl rfl ?_
    refine WX.icmp rfl (fun c_24 => absurd c_24 (fun zz_ => absurd ((nI_leI (a := 32512) (b := N) (by omega) (by omega)).mp zz_) (Nat.not_le.mpr (by omega)))) (fun c_24 => ?_)
    clear c_24
    refine WX.s1 rfl rfl ?_
    refine WX.s1 rfl rfl ?_
    refine WX.s1 rfl rfl ?_
    refine WX.s1 rfl rfl ?_
    refine WX.div rfl (by decide) ?_
    rw [show nI N / 256 = nI (N / 256) from pk_div (by omega) (by decide) (by decide)]
    refine WX.s1 (S' := [.int (128 + (nI (N / 256))), .ref m]) rfl rfl ?_
    rw [show (128 + (nI (N / 256))) = nI (128 + N / 256) from nI_add 128 (N / 256)]
    refine WX.callC (vs := [.ref m, .int (nI (128 + N / 256))]) rfl rfl rfl (Nat.le_of_ble_eq_true rfl) (M_h.rcv hm) ?_
    refine m_sayL hm M_h (l := l) hF (by simp; omega) (fun h37n6 I37n6 A37n6 fr37n6 M_h37n6 fi37n6 fa37n6 hFd => ?_)
    have FR_h37n6 := FR_h.ztr fr37n6
    have K_I37n6_31 : I37n6 31 = (nI N) := (fi37n6 31 (by decide)).trans K_I_31
    have FI_I37n6 : Fi I I37n6 (fun f => f = 38 ∨ f = 40) := FI_I.zsub fi37n6 (fun j hj => by first | exact hj | omega)
    have FA_A37n6 : FaS AR A37n6 (fun b => b = 25) := FA_AR.ztr (fa37n6.toS (by omega))
    rw [Nat.mod_eq_of_lt (show 128 + N / 256 < 256 by omega)] at hFd
    replace hM := hM.fa (fi37n6 38 (by decide)) (fa37n6 24 (by decide))
    show WX _ _ _ 40 [(0, .ref m), (1, .int (nI N))] [] (n, s, h37n6)
    refine WX.s1 rfl rfl ?_
    refine WX.s1 rfl rfl ?_
    refine WX.s1 rfl rfl ?_
    refine WX.div rfl (by decide) ?_
    rw [show nI N - nI N / 256 * 256 = nI (N % 256) from pk_rem (d := 256) (by omega) (by decide) (by decide)]
    refine WX.callC (vs := [.ref m, .int (nI (N % 256))]) rfl rfl rfl (Nat.le_of_ble_eq_true rfl) (M_h37n6.rcv hm) ?_
    refine m_sayL hm M_h37n6 (l := (l ++ [128 + N / 256])) hFd (by simp; omega) (fun h46n7 I46n7 A46n7 fr46n7 M_h46n7 fi46n7 fa46n7 hFc => ?_)
    have FR_h46n7 := FR_h37n6.ztr fr46n7
    have K_I46n7_31 : I46n7 31 = (nI N) := (fi46n7 31 (by decide)).trans K_I37n6_31
    have FI_I46n7 : Fi I I46n7 (fun f => f = 38 ∨ f = 40) := FI_I37n6.zsub fi46n7 (fun j hj => by first | exact hj | omega)
    have FA_A46n7 : FaS AR A46n7 (fun b => b = 25) := FA_A37n6.ztr (fa46n7.toS (by omega))
    rw [Nat.mod_mod, List.append_assoc] at hFc
    replace hM := hM.fa (fi46n7 38 (by decide)) (fa46n7 24 (by decide))
    show WX _ _ _ 49 [(0, .ref m), (1, .int (nI N))] [] (n, s, h46n7)
    refine WX.s1 rfl rfl ?_
    exact t70 h46n7 I46n7 A46n7 FR_h46n7 M_h46n7 FI_I46n7 FA_A46n7 K_I46n7_31 hM (by rw [show cntY N = [128 + N / 256, N % 256] from if_neg (by omega)]; exact hFc)
  · skip
    have n_9 : N < 128 := Nat.lt_of_not_le (fun zz_ => c_9 ((nI_leI (a := 128) (b := N) (by omega) (by omega)).mpr zz_))
    refine WX.s1 rfl rfl ?_
    refine WX.s1 rfl rfl ?_
    refine WX.callC (vs := [.ref m, .int (nI N)]) rfl rfl rfl (Nat.le_of_ble_eq_true rfl) (M_h.rcv hm) ?_
    refine m_sayL hm M_h (l := l) hF (by simp; omega) (fun h14n8 I14n8 A14n8 fr14n8 M_h14n8 fi14n8 fa14n8 hFc => ?_)
    have FR_h14n8 := FR_h.ztr fr14n8
    have K_I14n8_31 : I14n8 31 = (nI N) := (fi14n8 31 (by decide)).trans K_I_31
    have FI_I14n8 : Fi I I14n8 (fun f => f = 38 ∨ f = 40) := FI_I.zsub fi14n8 (fun j hj => by first | exact hj | omega)
    have FA_A14n8 : FaS AR A14n8 (fun b => b = 25) := FA_AR.ztr (fa14n8.toS (by omega))
    rw [Nat.mod_eq_of_lt (show N < 256 by omega)] at hFc
    replace hM := hM.fa (fi14n8 38 (by decide)) (fa14n8 24 (by decide))
    show WX _ _ _ 17 [(0, .ref m), (1, .int (nI N))] [] (n, s, h14n8)
    refine WX.s1 rfl rfl ?_
    exact t70 h14n8 I14n8 A14n8 FR_h14n8 M_h14n8 FI_I14n8 FA_A14n8 K_I14n8_31 hM (by rw [show cntY N = [N] from if_pos n_9]; exact hFc)
