/-! the reference: run, know, asItWas -/
def kr (l : List (Nat × Nat × Int32)) (i : Nat) : Int32 := l.foldl (fun x t => if t.1 ≤ i ∧ i < t.1 + t.2.1 then t.2.2 else x) 0
theorem kr_snoc (l : List (Nat × Nat × Int32)) (t : Nat × Nat × Int32) (i : Nat) : kr (l ++ [t]) i = if t.1 ≤ i ∧ i < t.1 + t.2.1 then t.2.2 else kr l i := by unfold kr; rw [List.foldl_append]; rfl
def kU (j i : Nat) : Nat := ((sTab.getD j []).getD i 0 + 1).toNatClampNeg
def kO (tb : Nat) : Nat := if tb = 1 then 5 else 6
def gT (tb : Nat) : Nat := if tb = 1 then 8 else 9
def lT (tb : Nat) : Nat := if tb = 0 then 35 else if tb = 1 then 31 else 52
def tKn (tb : Nat) : Tb := (kO tb, kU tb)
def RefT (A : Nat → Nat → Int32) (tb : Nat) : Option Tb → Prop
  | none => A 10 tb = -1
  | some t => A 10 tb = nI t.1 ∧ ∀ s, s < 64 → A 9 (64 * tb + s) = qI (t.2 s)
def Alo (t : Option Tb) : Prop := ∀ x, t = some x → x.1 = 0 → ∃ y, x.2 = aloU y
theorem sumN_two {f : Nat → Nat} {a b : Nat} : ∀ {N : Nat}, a < b → b < N → f a + f b ≤ sumN f N := by
  intro N
  induction N with
  | zero => intro _ h; exact absurd h (Nat.not_lt_zero _)
  | succ N ih =>
    intro h1 h2
    show _ ≤ sumN f N + f N
    by_cases e : b = N
    · rw [e]
      have := sumN_get f (show a < N by omega)
      omega
    · have := ih h1 (by omega)
      omega
theorem cd_one {ss : List Nat} (hok : SyOk ss) (h : (cdF ss).2 = 1) : ∀ s, s ∈ ss → s = ss.getD 0 0 := by
  intro s hs
  have h0 := getD_mem (show 0 < ss.length from hok.2.1)
  have hn := cd_nz hok.1
  have f1 : (if (cdF ss).1 s = 0 then 0 else 1) = 1 := if_neg (cd_pos.mpr hs)
  have f0 : (if (cdF ss).1 (ss.getD 0 0) = 0 then 0 else 1) = 1 := if_neg (cd_pos.mpr h0)
  apply Classical.byContradiction
  intro z
  rcases Nat.lt_or_gt_of_ne z with y | y
  · have := sumN_two (f := fun s => if (cdF ss).1 s = 0 then 0 else 1) y (hok.1 _ h0)
    have e : sumN (fun s => if (cdF ss).1 s = 0 then 0 else 1) 64 = nzC (cdF ss).1 64 := rfl
    simp only [f1, f0] at this
    omega
  · have := sumN_two (f := fun s => if (cdF ss).1 s = 0 then 0 else 1) y (hok.1 _ hs)
    have e : sumN (fun s => if (cdF ss).1 s = 0 then 0 else 1) 64 = nzC (cdF ss).1 64 := rfl
    simp only [f1, f0] at this
    omega
theorem cd_same {ss : List Nat} {x : Nat} (hok : SyOk ss) (h : ∀ s, s ∈ ss → s = x) : (cdF ss).2 = 1 := by
  rw [← cd_nz hok.1]
  have h0 := getD_mem (show 0 < ss.length from hok.2.1)
  have hx : x ∈ ss := by rw [← h _ h0]; exact h0
  refine sumN_one (hok.1 x hx) (fun s => ?_)
  by_cases e : s = x
  · rw [if_pos e, if_neg (cd_pos.mpr (by rw [e]; exact hx))]
  · rw [if_neg e, if_pos (Classical.byContradiction (fun z => e (h s (cd_pos.mp z))))]
theorem alo_mass {x s : Nat} : massU (aloU x s) ≠ 0 ↔ s = x := by
  unfold aloU
  by_cases e : s = x
  · rw [if_pos e]; exact ⟨fun _ => e, fun _ => by decide⟩
  · rw [if_neg e]; exact ⟨fun z => absurd rfl z, fun z => absurd z e⟩
theorem tabC_alo {ss : List Nat} {x : Nat} (hok : SyOk ss) : tabC (0, aloU x) ss = if (cdF ss).2 = 1 ∧ ss.getD 0 0 = x then some 0 else none := by
  have h0 := getD_mem (show 0 < ss.length from hok.2.1)
  by_cases c : (cdF ss).2 = 1 ∧ ss.getD 0 0 = x
  · rw [if_pos c]
    have ha : ∀ s, s ∈ ss → massU (aloU x s) ≠ 0 := fun s hs => alo_mass.mpr ((cd_one hok c.1 s hs).trans c.2)
    have hx : x < 64 := by rw [← c.2]; exact hok.1 _ h0
    have hS : mSum (aloU x) 64 = 2 ^ 0 := by rw [alo_sum, if_pos hx]
    obtain ⟨c2, p2, q1, -, -⟩ := row_ex (u := aloU x) (N := 64) (o := 0) (Or.inl rfl) (by decide) hS ss (sy_ne hok) (fun s q => ⟨hok.1 s q, ha s q⟩)
    have := rc_le q1
    unfold tabC
    rw [if_pos ha]
    show some (rcF (aloU x) 64 0 ss) = _
    rw [rcF_is (Or.inl rfl) (by decide) hS q1]
    congr 1
    omega
  · rw [if_neg c]
    refine if_neg (fun z => c ?_)
    have hz : ∀ s, s ∈ ss → s = x := fun s hs => alo_mass.mp (z s hs)
    exact ⟨cd_same hok hz, hz _ h0⟩
set_option maxRecDepth 20000 in
theorem m_run {d n s : Nat} {h : Nat → aE} {m : Nat} {I : Nat → Int32} {AR : Nat → Nat → Int32} {LN : Nat → Int64} {f c : Nat} {v : Int32} (hm : m + 43 < n) (M_h : MAt h m I AR LN) (hf : f + c ≤ 64)  {Ψ : Option Value → aH → Prop} (kk : ∀ h' A', Fr h h' (inM m) → MAt h' m I A' LN → FaS AR A' (fun b => b = 30) → (∀ i, A' 30 i = if f ≤ i ∧ i < f + c then v else AR 30 i) → Ψ (some (.int (nI (f + c)))) (n, s, h')) : WO (mM (d + 1)) 174 [.ref m, .int (nI f), .int (nI c), .int v] (n, s, h) Ψ := by
  refine WO.of (Nat.le_of_ble_eq_true rfl) ?_
  have FR_h : Fr h h (inM m) := Fr.rf
  have FI_I : Fi I I (fun f => f = 40) := Fi.rf
  have FA_AR : FaS AR AR (fun b => b = 30) := FaS.rf
  show WX (lk tX12_run) (mM d) Ψ 0 [(0, .ref m), (1, .int (nI f)), (2, .int (nI c)), (3, .int v)] [] (n, s, h)
  refine WX.s1 rfl rfl ?_
  refine WX.s1 (L' := [(0, .ref m), (1, .int (nI f)), (2, .int (nI c)), (3, .int v), (4, .int 0)]) rfl rfl ?_
  have lp : ∀ (t k : Nat) (hL : Nat → aE) (AL : Nat → Nat → Int32), k + t = c → Fr h hL (inM m) → MAt hL m I AL LN → FaS AR AL (fun b => b = 30) → (∀ i, AL 30 i = if f ≤ i ∧ i < f + k then v else AR 30 i) → WX (lk tX12_run) (mM d) Ψ 3 [(0, .ref m), (1, .int (nI f)), (2, .int (nI c)), (3, .int v), (4, .int (nI k))] [] (n, s, hL) := by
    clear M_h FR_h FA_AR
    intro t
    induction t with
    | zero =>
      intro k hL AL hk FR_hL M_hL FA_AL hA
      obtain rfl : k = c := by omega
      refine WX.s1 rfl rfl ?_
      refine WX.s1 rfl rfl ?_
      refine WX.icmp rfl (fun c_6 => ?_) (fun c_6 => absurd ((nI_leI (a := k) (b := k) (by omega) (by omega)).mpr (by omega)) c_6)
      clear c_6
      refine WX.s1 rfl rfl ?_
      refine WX.s1 rfl rfl ?_
      refine WX.s1 (S' := [.int ((nI f) + (nI k))]) rfl rfl ?_
      rw [show ((nI f) + (nI k)) = nI (f + k) from nI_add f k]
      exact WX.ret1 rfl (kk hL AL FR_hL M_hL FA_AL hA)
    | succ t ih =>
      intro k hL AL hk FR_hL M_hL FA_AL hA
      refine WX.s1 rfl rfl ?_
      refine WX.s1 rfl rfl ?_
      refine WX.icmp rfl (fun c_6 => absurd c_6 (fun zz_ => absurd ((nI_leI (a := c) (b := k) (by omega) (by omega)).mp zz_) (Nat.not_le.mpr (by omega)))) (fun c_6 => ?_)
      clear c_6
      refine WX.s1 rfl rfl ?_
      refine WX.mget rfl hm M_hL rfl ?_
      refine WX.s1 rfl rfl ?_
      refine WX.s1 rfl rfl ?_
      refine WX.s1 (S' := [.int ((nI f) + (nI k)), .ref (m + 30)]) rfl rfl ?_
      rw [show ((nI f) + (nI k)) = nI (f + k) from nI_add f k]
      refine WX.s1 rfl rfl ?_
      refine WX.mast (c := 30) rfl hm M_hL (by decide) (by decide) (by decide) (by decide) (vp_in_nI (N := 64) (by omega) (by decide)) (fun h18n1 A18n1 e_A18n1 M_h18n1 frh18n1 => ?_)
      try dsimp only at e_A18n1
      have FR_h18n1 := FR_hL.ztr frh18n1
      clear M_hL FR_hL frh18n1
      refine WX.s1 (L' := [(0, .ref m), (1, .int (nI f)), (2, .int (nI c)), (3, .int v), (4, .int ((nI k) + 1))]) rfl rfl ?_
      rw [show ((nI k) + 1) = nI (k + 1) from nI_add k 1]
      refine WX.s1 rfl rfl ?_
      rw [nI_clamp (by omega)] at e_A18n1
      refine ih (k + 1) h18n1 A18n1 (by omega) FR_h18n1 M_h18n1 (FA_AL.ast e_A18n1 rfl) (fun q => ?_)
      rw [e_A18n1, upA_same]
      by_cases z : q = f + k
      · rw [z, pk_us, if_pos (by omega)]
      · rw [pk_un z, hA q]
        by_cases y : f ≤ q ∧ q < f + k
        · rw [if_pos y, if_pos (by omega)]
        · rw [if_neg y, if_neg (by omega)]
  exact lp c 0 h AR (by omega) FR_h M_h FA_AR (fun i => by rw [if_neg (by omega)])
set_option maxRecDepth 20000 in
theorem m_know0 {d n s : Nat} {h : Nat → aE} {m : Nat} {I : Nat → Int32} {AR : Nat → Nat → Int32} {LN : Nat → Int64}  (hm : m + 43 < n) (M_h : MAt h m I AR LN)   {Ψ : Option Value → aH → Prop} (kk : ∀ h' A', Fr h h' (inM m) → MAt h' m I A' LN → FaS AR A' (fun b => b = 30) → (∀ s, s < 64 → A' 30 s = qI (kU 0 s)) → Ψ (some (.int 6)) (n, s, h')) : WO (mM (d + 2)) 175 [.ref m, .int 0] (n, s, h) Ψ := by
  refine WO.of (Nat.le_of_ble_eq_true rfl) ?_
  have FR_h : Fr h h (inM m) := Fr.rf
  have FI_I : Fi I I (fun f => f = 40) := Fi.rf
  have FA_AR : FaS AR AR (fun b => b = 30) := FaS.rf
  show WX (lk tX12_know) (mM (d + 1)) Ψ 0 [(0, .ref m), (1, .int 0)] [] (n, s, h)
  refine WX.s1 rfl rfl ?_
  refine WX.s1 rfl rfl ?_
  refine WX.s1 rfl rfl ?_
  refine WX.s1 rfl rfl ?_
  refine WX.callC (vs := [.ref m, .int 0, .int 64, .int (0)]) rfl rfl rfl (Nat.le_of_ble_eq_true rfl) (M_h.rcv hm) ?_
  refine m_run (f := 0) (c := 64) hm M_h (by decide) (fun h5n1 A5n1 fr5n1 M_h5n1 fa5n1 hr5n1 => ?_)
  have FR_h5n1 := FR_h.ztr fr5n1
  have FA_A5n1 := FA_AR.ztr fa5n1
  have hk_A5n1 : ∀ i, i < 64 → A5n1 30 i = kr [] i := fun i hi => by rw [hr5n1 i, if_pos (by omega)]; rfl
  show WX _ _ _ 8 [(0, .ref m), (1, .int 0)] [.int 64] (n, s, h5n1)
  refine WX.s1 (L' := [(0, .ref m), (1, .int 0), (2, .int 64)]) rfl rfl ?_
  refine WX.s1 rfl rfl ?_
  refine WX.if_ rfl (fun c_10 => absurd c_10 (by decide)) (fun c_10 => ?_)
  clear c_10
  refine WX.s1 rfl rfl ?_
  refine WX.s1 rfl rfl ?_
  refine WX.s1 rfl rfl ?_
  refine WX.s1 rfl rfl ?_
  refine WX.s1 rfl rfl ?_
  refine WX.s1 rfl rfl ?_
  refine WX.s1 rfl rfl ?_
  refine WX.callC (vs := [.ref m, .int 0, .int 1, .int (4)]) rfl rfl rfl (Nat.le_of_ble_eq_true rfl) (M_h5n1.rcv hm) ?_
  refine m_run (f := 0) (c := 1) hm M_h5n1 (by decide) (fun h20n2 A20n2 fr20n2 M_h20n2 fa20n2 hr20n2 => ?_)
  have FR_h20n2 := FR_h5n1.ztr fr20n2
  have FA_A20n2 := FA_A5n1.ztr fa20n2
  have hk_A20n2 : ∀ i, i < 64 → A20n2 30 i = kr [(0, 1, 4)] i := fun i hi => by rw [hr20n2 i, hk_A5n1 i hi]; exact (kr_snoc [] (0, 1, 4) i).symm
  show WX _ _ _ 23 [(0, .ref m), (1, .int 0), (2, .int 64)] [.int 1, .ref m, .ref m, .ref m] (n, s, h20n2)
  refine WX.s1 rfl rfl ?_
  refine WX.s1 rfl rfl ?_
  refine WX.callC (vs := [.ref m, .int 1, .int 1, .int (3)]) rfl rfl rfl (Nat.le_of_ble_eq_true rfl) (M_h20n2.rcv hm) ?_
  refine m_run (f := 1) (c := 1) hm M_h20n2 (by decide) (fun h25n3 A25n3 fr25n3 M_h25n3 fa25n3 hr25n3 => ?_)
  have FR_h25n3 := FR_h20n2.ztr fr25n3
  have FA_A25n3 := FA_A20n2.ztr fa25n3
  have hk_A25n3 : ∀ i, i < 64 → A25n3 30 i = kr [(0, 1, 4), (1, 1, 3)] i := fun i hi => by rw [hr25n3 i, hk_A20n2 i hi]; exact (kr_snoc [(0, 1, 4)] (1, 1, 3) i).symm
  show WX _ _ _ 28 [(0, .ref m), (1, .int 0), (2, .int 64)] [.int 2, .ref m, .ref m] (n, s, h25n3)
  refine WX.s1 rfl rfl ?_
  refine WX.s1 rfl rfl ?_
  refine WX.callC (vs := [.ref m, .int 2, .int 11, .int (2)]) rfl rfl rfl (Nat.le_of_ble_eq_true rfl) (M_h25n3.rcv hm) ?_
  refine m_run (f := 2) (c := 11) hm M_h25n3 (by decide) (fun h31n4 A31n4 fr31n4 M_h31n4 fa31n4 hr31n4 => ?_)
  have FR_h31n4 := FR_h25n3.ztr fr31n4
  have FA_A31n4 := FA_A25n3.ztr fa31n4
  have hk_A31n4 : ∀ i, i < 64 → A31n4 30 i = kr [(0, 1, 4), (1, 1, 3), (2, 11, 2)] i := fun i hi => by rw [hr31n4 i, hk_A25n3 i hi]; exact (kr_snoc [(0, 1, 4), (1, 1, 3)] (2, 11, 2) i).symm
  show WX _ _ _ 34 [(0, .ref m), (1, .int 0), (2, .int 64)] [.int 13, .ref m] (n, s, h31n4)
  refine WX.s1 rfl rfl ?_
  refine WX.s1 rfl rfl ?_
  refine WX.callC (vs := [.ref m, .int 13, .int 3, .int (1)]) rfl rfl rfl (Nat.le_of_ble_eq_true rfl) (M_h31n4.rcv hm) ?_
  refine m_run (f := 13) (c := 3) hm M_h31n4 (by decide) (fun h36n5 A36n5 fr36n5 M_h36n5 fa36n5 hr36n5 => ?_)
  have FR_h36n5 := FR_h31n4.ztr fr36n5
  have FA_A36n5 := FA_A31n4.ztr fa36n5
  have hk_A36n5 : ∀ i, i < 64 → A36n5 30 i = kr [(0, 1, 4), (1, 1, 3), (2, 11, 2), (13, 3, 1)] i := fun i hi => by rw [hr36n5 i, hk_A31n4 i hi]; exact (kr_snoc [(0, 1, 4), (1, 1, 3), (2, 11, 2)] (13, 3, 1) i).symm
  show WX _ _ _ 39 [(0, .ref m), (1, .int 0), (2, .int 64)] [.int 16] (n, s, h36n5)
  refine WX.s1 (L' := [(0, .ref m), (1, .int 0), (2, .int 16)]) rfl rfl ?_
  refine WX.s1 rfl rfl ?_
  refine WX.s1 rfl rfl ?_
  refine WX.s1 rfl rfl ?_
  refine WX.s1 rfl rfl ?_
  refine WX.s1 rfl rfl ?_
  refine WX.s1 rfl rfl ?_
  refine WX.s1 rfl rfl ?_
  refine WX.s1 rfl rfl ?_
  refine WX.callC (vs := [.ref m, .int 16, .int 9, .int (2)]) rfl rfl rfl (Nat.le_of_ble_eq_true rfl) (M_h36n5.rcv hm) ?_
  refine m_run (f := 16) (c := 9) hm M_h36n5 (by decide) (fun h49n6 A49n6 fr49n6 M_h49n6 fa49n6 hr49n6 => ?_)
  have FR_h49n6 := FR_h36n5.ztr fr49n6
  have FA_A49n6 := FA_A36n5.ztr fa49n6
  have hk_A49n6 : ∀ i, i < 64 → A49n6 30 i = kr [(0, 1, 4), (1, 1, 3), (2, 11, 2), (13, 3, 1), (16, 9, 2)] i := fun i hi => by rw [hr49n6 i, hk_A36n5 i hi]; exact (kr_snoc [(0, 1, 4), (1, 1, 3), (2, 11, 2), (13, 3, 1)] (16, 9, 2) i).symm
  show WX _ _ _ 52 [(0, .ref m), (1, .int 0), (2, .int 16)] [.int 25, .ref m, .ref m, .ref m, .ref m] (n, s, h49n6)
  refine WX.s1 rfl rfl ?_
  refine WX.s1 rfl rfl ?_
  refine WX.callC (vs := [.ref m, .int 25, .int 1, .int (3)]) rfl rfl rfl (Nat.le_of_ble_eq_true rfl) (M_h49n6.rcv hm) ?_
  refine m_run (f := 25) (c := 1) hm M_h49n6 (by decide) (fun h54n7 A54n7 fr54n7 M_h54n7 fa54n7 hr54n7 => ?_)
  have FR_h54n7 := FR_h49n6.ztr fr54n7
  have FA_A54n7 := FA_A49n6.ztr fa54n7
  have hk_A54n7 : ∀ i, i < 64 → A54n7 30 i = kr [(0, 1, 4), (1, 1, 3), (2, 11, 2), (13, 3, 1), (16, 9, 2), (25, 1, 3)] i := fun i hi => by rw [hr54n7 i, hk_A49n6 i hi]; exact (kr_snoc [(0, 1, 4), (1, 1, 3), (2, 11, 2), (13, 3, 1), (16, 9, 2)] (25, 1, 3) i).symm
  show WX _ _ _ 57 [(0, .ref m), (1, .int 0), (2, .int 16)] [.int 26, .ref m, .ref m, .ref m] (n, s, h54n7)
  refine WX.s1 rfl rfl ?_
  refine WX.s1 rfl rfl ?_
  refine WX.callC (vs := [.ref m, .int 26, .int 1, .int (2)]) rfl rfl rfl (Nat.le_of_ble_eq_true rfl) (M_h54n7.rcv hm) ?_
  refine m_run (f := 26) (c := 1) hm M_h54n7 (by decide) (fun h59n8 A59n8 fr59n8 M_h59n8 fa59n8 hr59n8 => ?_)
  have FR_h59n8 := FR_h54n7.ztr fr59n8
  have FA_A59n8 := FA_A54n7.ztr fa59n8
  have hk_A59n8 : ∀ i, i < 64 → A59n8 30 i = kr [(0, 1, 4), (1, 1, 3), (2, 11, 2), (13, 3, 1), (16, 9, 2), (25, 1, 3), (26, 1, 2)] i := fun i hi => by rw [hr59n8 i, hk_A54n7 i hi]; exact (kr_snoc [(0, 1, 4), (1, 1, 3), (2, 11, 2), (13, 3, 1), (16, 9, 2), (25, 1, 3)] (26, 1, 2) i).symm
  show WX _ _ _ 62 [(0, .ref m), (1, .int 0), (2, .int 16)] [.int 27, .ref m, .ref m] (n, s, h59n8)
  refine WX.s1 rfl rfl ?_
  refine WX.s1 rfl rfl ?_
  refine WX.callC (vs := [.ref m, .int 27, .int 5, .int (1)]) rfl rfl rfl (Nat.le_of_ble_eq_true rfl) (M_h59n8.rcv hm) ?_
  refine m_run (f := 27) (c := 5) hm M_h59n8 (by decide) (fun h64n9 A64n9 fr64n9 M_h64n9 fa64n9 hr64n9 => ?_)
  have FR_h64n9 := FR_h59n8.ztr fr64n9
  have FA_A64n9 := FA_A59n8.ztr fa64n9
  have hk_A64n9 : ∀ i, i < 64 → A64n9 30 i = kr [(0, 1, 4), (1, 1, 3), (2, 11, 2), (13, 3, 1), (16, 9, 2), (25, 1, 3), (26, 1, 2), (27, 5, 1)] i := fun i hi => by rw [hr64n9 i, hk_A59n8 i hi]; exact (kr_snoc [(0, 1, 4), (1, 1, 3), (2, 11, 2), (13, 3, 1), (16, 9, 2), (25, 1, 3), (26, 1, 2)] (27, 5, 1) i).symm
  show WX _ _ _ 67 [(0, .ref m), (1, .int 0), (2, .int 16)] [.int 32, .ref m] (n, s, h64n9)
  refine WX.s1 rfl rfl ?_
  refine WX.s1 rfl rfl ?_
  refine WX.callC (vs := [.ref m, .int 32, .int 4, .int (-1)]) rfl rfl rfl (Nat.le_of_ble_eq_true rfl) (M_h64n9.rcv hm) ?_
  refine m_run (f := 32) (c := 4) hm M_h64n9 (by decide) (fun h69n10 A69n10 fr69n10 M_h69n10 fa69n10 hr69n10 => ?_)
  have FR_h69n10 := FR_h64n9.ztr fr69n10
  have FA_A69n10 := FA_A64n9.ztr fa69n10
  have hk_A69n10 : ∀ i, i < 64 → A69n10 30 i = kr [(0, 1, 4), (1, 1, 3), (2, 11, 2), (13, 3, 1), (16, 9, 2), (25, 1, 3), (26, 1, 2), (27, 5, 1), (32, 4, -1)] i := fun i hi => by rw [hr69n10 i, hk_A64n9 i hi]; exact (kr_snoc [(0, 1, 4), (1, 1, 3), (2, 11, 2), (13, 3, 1), (16, 9, 2), (25, 1, 3), (26, 1, 2), (27, 5, 1)] (32, 4, -1) i).symm
  show WX _ _ _ 72 [(0, .ref m), (1, .int 0), (2, .int 16)] [.int 36] (n, s, h69n10)
  refine WX.s1 (L' := [(0, .ref m), (1, .int 0), (2, .int 36)]) rfl rfl ?_
  refine WX.s1 rfl rfl ?_
  exact WX.ret1 rfl (kk h69n10 A69n10 FR_h69n10 M_h69n10 FA_A69n10 (fun i hi => (hk_A69n10 i hi).trans ((show ∀ i, i < 64 → kr [(0, 1, 4), (1, 1, 3), (2, 11, 2), (13, 3, 1), (16, 9, 2), (25, 1, 3), (26, 1, 2), (27, 5, 1), (32, 4, -1)] i = qI (kU 0 i) by decide +kernel) i hi)))
set_option maxRecDepth 20000 in
theorem m_know1 {d n s : Nat} {h : Nat → aE} {m : Nat} {I : Nat → Int32} {AR : Nat → Nat → Int32} {LN : Nat → Int64}  (hm : m + 43 < n) (M_h : MAt h m I AR LN)   {Ψ : Option Value → aH → Prop} (kk : ∀ h' A', Fr h h' (inM m) → MAt h' m I A' LN → FaS AR A' (fun b => b = 30) → (∀ s, s < 64 → A' 30 s = qI (kU 1 s)) → Ψ (some (.int 5)) (n, s, h')) : WO (mM (d + 2)) 175 [.ref m, .int 1] (n, s, h) Ψ := by
  refine WO.of (Nat.le_of_ble_eq_true rfl) ?_
  have FR_h : Fr h h (inM m) := Fr.rf
  have FI_I : Fi I I (fun f => f = 40) := Fi.rf
  have FA_AR : FaS AR AR (fun b => b = 30) := FaS.rf
  show WX (lk tX12_know) (mM (d + 1)) Ψ 0 [(0, .ref m), (1, .int 1)] [] (n, s, h)
  refine WX.s1 rfl rfl ?_
  refine WX.s1 rfl rfl ?_
  refine WX.s1 rfl rfl ?_
  refine WX.s1 rfl rfl ?_
  refine WX.callC (vs := [.ref m, .int 0, .int 64, .int (0)]) rfl rfl rfl (Nat.le_of_ble_eq_true rfl) (M_h.rcv hm) ?_
  refine m_run (f := 0) (c := 64) hm M_h (by decide) (fun h5n1 A5n1 fr5n1 M_h5n1 fa5n1 hr5n1 => ?_)
  have FR_h5n1 := FR_h.ztr fr5n1
  have FA_A5n1 := FA_AR.ztr fa5n1
  have hk_A5n1 : ∀ i, i < 64 → A5n1 30 i = kr [] i := fun i hi => by rw [hr5n1 i, if_pos (by omega)]; rfl
  show WX _ _ _ 8 [(0, .ref m), (1, .int 1)] [.int 64] (n, s, h5n1)
  refine WX.s1 (L' := [(0, .ref m), (1, .int 1), (2, .int 64)]) rfl rfl ?_
  refine WX.s1 rfl rfl ?_
  refine WX.if_ rfl (fun c_10 => ?_) (fun c_10 => absurd (by decide) c_10)
  clear c_10
  refine WX.s1 rfl rfl ?_
  refine WX.s1 rfl rfl ?_
  refine WX.icmp rfl (fun c_78 => absurd c_78 (by decide)) (fun c_78 => ?_)
  clear c_78
  refine WX.s1 rfl rfl ?_
  refine WX.s1 rfl rfl ?_
  refine WX.s1 rfl rfl ?_
  refine WX.s1 rfl rfl ?_
  refine WX.s1 rfl rfl ?_
  refine WX.s1 rfl rfl ?_
  refine WX.s1 rfl rfl ?_
  refine WX.callC (vs := [.ref m, .int 0, .int 6, .int (1)]) rfl rfl rfl (Nat.le_of_ble_eq_true rfl) (M_h5n1.rcv hm) ?_
  refine m_run (f := 0) (c := 6) hm M_h5n1 (by decide) (fun h89n2 A89n2 fr89n2 M_h89n2 fa89n2 hr89n2 => ?_)
  have FR_h89n2 := FR_h5n1.ztr fr89n2
  have FA_A89n2 := FA_A5n1.ztr fa89n2
  have hk_A89n2 : ∀ i, i < 64 → A89n2 30 i = kr [(0, 6, 1)] i := fun i hi => by rw [hr89n2 i, hk_A5n1 i hi]; exact (kr_snoc [] (0, 6, 1) i).symm
  show WX _ _ _ 92 [(0, .ref m), (1, .int 1), (2, .int 64)] [.int 6, .ref m, .ref m, .ref m] (n, s, h89n2)
  refine WX.s1 rfl rfl ?_
  refine WX.s1 rfl rfl ?_
  refine WX.callC (vs := [.ref m, .int 6, .int 3, .int (2)]) rfl rfl rfl (Nat.le_of_ble_eq_true rfl) (M_h89n2.rcv hm) ?_
  refine m_run (f := 6) (c := 3) hm M_h89n2 (by decide) (fun h94n3 A94n3 fr94n3 M_h94n3 fa94n3 hr94n3 => ?_)
  have FR_h94n3 := FR_h89n2.ztr fr94n3
  have FA_A94n3 := FA_A89n2.ztr fa94n3
  have hk_A94n3 : ∀ i, i < 64 → A94n3 30 i = kr [(0, 6, 1), (6, 3, 2)] i := fun i hi => by rw [hr94n3 i, hk_A89n2 i hi]; exact (kr_snoc [(0, 6, 1)] (6, 3, 2) i).symm
  show WX _ _ _ 97 [(0, .ref m), (1, .int 1), (2, .int 64)] [.int 9, .ref m, .ref m] (n, s, h94n3)
  refine WX.s1 rfl rfl ?_
  refine WX.s1 rfl rfl ?_
  refine WX.callC (vs := [.ref m, .int 9, .int 15, .int (1)]) rfl rfl rfl (Nat.le_of_ble_eq_true rfl) (M_h94n3.rcv hm) ?_
  refine m_run (f := 9) (c := 15) hm M_h94n3 (by decide) (fun h100n4 A100n4 fr100n4 M_h100n4 fa100n4 hr100n4 => ?_)
  have FR_h100n4 := FR_h94n3.ztr fr100n4
  have FA_A100n4 := FA_A94n3.ztr fa100n4
  have hk_A100n4 : ∀ i, i < 64 → A100n4 30 i = kr [(0, 6, 1), (6, 3, 2), (9, 15, 1)] i := fun i hi => by rw [hr100n4 i, hk_A94n3 i hi]; exact (kr_snoc [(0, 6, 1), (6, 3, 2)] (9, 15, 1) i).symm
  show WX _ _ _ 103 [(0, .ref m), (1, .int 1), (2, .int 64)] [.int 24, .ref m] (n, s, h100n4)
  refine WX.s1 rfl rfl ?_
  refine WX.s1 rfl rfl ?_
  refine WX.callC (vs := [.ref m, .int 24, .int 5, .int (-1)]) rfl rfl rfl (Nat.le_of_ble_eq_true rfl) (M_h100n4.rcv hm) ?_
  refine m_run (f := 24) (c := 5) hm M_h100n4 (by decide) (fun h105n5 A105n5 fr105n5 M_h105n5 fa105n5 hr105n5 => ?_)
  have FR_h105n5 := FR_h100n4.ztr fr105n5
  have FA_A105n5 := FA_A100n4.ztr fa105n5
  have hk_A105n5 : ∀ i, i < 64 → A105n5 30 i = kr [(0, 6, 1), (6, 3, 2), (9, 15, 1), (24, 5, -1)] i := fun i hi => by rw [hr105n5 i, hk_A100n4 i hi]; exact (kr_snoc [(0, 6, 1), (6, 3, 2), (9, 15, 1)] (24, 5, -1) i).symm
  show WX _ _ _ 108 [(0, .ref m), (1, .int 1), (2, .int 64)] [.int 29] (n, s, h105n5)
  refine WX.s1 (L' := [(0, .ref m), (1, .int 1), (2, .int 29)]) rfl rfl ?_
  refine WX.s1 rfl rfl ?_
  exact WX.ret1 rfl (kk h105n5 A105n5 FR_h105n5 M_h105n5 FA_A105n5 (fun i hi => (hk_A105n5 i hi).trans ((show ∀ i, i < 64 → kr [(0, 6, 1), (6, 3, 2), (9, 15, 1), (24, 5, -1)] i = qI (kU 1 i) by decide +kernel) i hi)))
set_option maxRecDepth 20000 in
theorem m_know2 {d n s : Nat} {h : Nat → aE} {m : Nat} {I : Nat → Int32} {AR : Nat → Nat → Int32} {LN : Nat → Int64}  (hm : m + 43 < n) (M_h : MAt h m I AR LN)   {Ψ : Option Value → aH → Prop} (kk : ∀ h' A', Fr h h' (inM m) → MAt h' m I A' LN → FaS AR A' (fun b => b = 30) → (∀ s, s < 64 → A' 30 s = qI (kU 2 s)) → Ψ (some (.int 6)) (n, s, h')) : WO (mM (d + 2)) 175 [.ref m, .int 2] (n, s, h) Ψ := by
  refine WO.of (Nat.le_of_ble_eq_true rfl) ?_
  have FR_h : Fr h h (inM m) := Fr.rf
  have FI_I : Fi I I (fun f => f = 40) := Fi.rf
  have FA_AR : FaS AR AR (fun b => b = 30) := FaS.rf
  show WX (lk tX12_know) (mM (d + 1)) Ψ 0 [(0, .ref m), (1, .int 2)] [] (n, s, h)
  refine WX.s1 rfl rfl ?_
  refine WX.s1 rfl rfl ?_
  refine WX.s1 rfl rfl ?_
  refine WX.s1 rfl rfl ?_
  refine WX.callC (vs := [.ref m, .int 0, .int 64, .int (0)]) rfl rfl rfl (Nat.le_of_ble_eq_true rfl) (M_h.rcv hm) ?_
  refine m_run (f := 0) (c := 64) hm M_h (by decide) (fun h5n1 A5n1 fr5n1 M_h5n1 fa5n1 hr5n1 => ?_)
  have FR_h5n1 := FR_h.ztr fr5n1
  have FA_A5n1 := FA_AR.ztr fa5n1
  have hk_A5n1 : ∀ i, i < 64 → A5n1 30 i = kr [] i := fun i hi => by rw [hr5n1 i, if_pos (by omega)]; rfl
  show WX _ _ _ 8 [(0, .ref m), (1, .int 2)] [.int 64] (n, s, h5n1)
  refine WX.s1 (L' := [(0, .ref m), (1, .int 2), (2, .int 64)]) rfl rfl ?_
  refine WX.s1 rfl rfl ?_
  refine WX.if_ rfl (fun c_10 => ?_) (fun c_10 => absurd (by decide) c_10)
  clear c_10
  refine WX.s1 rfl rfl ?_
  refine WX.s1 rfl rfl ?_
  refine WX.icmp rfl (fun c_78 => ?_) (fun c_78 => absurd (by decide) c_78)
  clear c_78
  refine WX.s1 rfl rfl ?_
  refine WX.s1 rfl rfl ?_
  refine WX.s1 rfl rfl ?_
  refine WX.s1 rfl rfl ?_
  refine WX.s1 rfl rfl ?_
  refine WX.s1 rfl rfl ?_
  refine WX.s1 rfl rfl ?_
  refine WX.s1 rfl rfl ?_
  refine WX.s1 rfl rfl ?_
  refine WX.callC (vs := [.ref m, .int 0, .int 1, .int (1)]) rfl rfl rfl (Nat.le_of_ble_eq_true rfl) (M_h5n1.rcv hm) ?_
  refine m_run (f := 0) (c := 1) hm M_h5n1 (by decide) (fun h120n2 A120n2 fr120n2 M_h120n2 fa120n2 hr120n2 => ?_)
  have FR_h120n2 := FR_h5n1.ztr fr120n2
  have FA_A120n2 := FA_A5n1.ztr fa120n2
  have hk_A120n2 : ∀ i, i < 64 → A120n2 30 i = kr [(0, 1, 1)] i := fun i hi => by rw [hr120n2 i, hk_A5n1 i hi]; exact (kr_snoc [] (0, 1, 1) i).symm
  show WX _ _ _ 123 [(0, .ref m), (1, .int 2), (2, .int 64)] [.int 1, .ref m, .ref m, .ref m, .ref m, .ref m] (n, s, h120n2)
  refine WX.s1 rfl rfl ?_
  refine WX.s1 rfl rfl ?_
  refine WX.callC (vs := [.ref m, .int 1, .int 1, .int (4)]) rfl rfl rfl (Nat.le_of_ble_eq_true rfl) (M_h120n2.rcv hm) ?_
  refine m_run (f := 1) (c := 1) hm M_h120n2 (by decide) (fun h125n3 A125n3 fr125n3 M_h125n3 fa125n3 hr125n3 => ?_)
  have FR_h125n3 := FR_h120n2.ztr fr125n3
  have FA_A125n3 := FA_A120n2.ztr fa125n3
  have hk_A125n3 : ∀ i, i < 64 → A125n3 30 i = kr [(0, 1, 1), (1, 1, 4)] i := fun i hi => by rw [hr125n3 i, hk_A120n2 i hi]; exact (kr_snoc [(0, 1, 1)] (1, 1, 4) i).symm
  show WX _ _ _ 128 [(0, .ref m), (1, .int 2), (2, .int 64)] [.int 2, .ref m, .ref m, .ref m, .ref m] (n, s, h125n3)
  refine WX.s1 rfl rfl ?_
  refine WX.s1 rfl rfl ?_
  refine WX.callC (vs := [.ref m, .int 2, .int 1, .int (3)]) rfl rfl rfl (Nat.le_of_ble_eq_true rfl) (M_h125n3.rcv hm) ?_
  refine m_run (f := 2) (c := 1) hm M_h125n3 (by decide) (fun h130n4 A130n4 fr130n4 M_h130n4 fa130n4 hr130n4 => ?_)
  have FR_h130n4 := FR_h125n3.ztr fr130n4
  have FA_A130n4 := FA_A125n3.ztr fa130n4
  have hk_A130n4 : ∀ i, i < 64 → A130n4 30 i = kr [(0, 1, 1), (1, 1, 4), (2, 1, 3)] i := fun i hi => by rw [hr130n4 i, hk_A125n3 i hi]; exact (kr_snoc [(0, 1, 1), (1, 1, 4)] (2, 1, 3) i).symm
  show WX _ _ _ 133 [(0, .ref m), (1, .int 2), (2, .int 64)] [.int 3, .ref m, .ref m, .ref m] (n, s, h130n4)
  refine WX.s1 rfl rfl ?_
  refine WX.s1 rfl rfl ?_
  refine WX.callC (vs := [.ref m, .int 3, .int 6, .int (2)]) rfl rfl rfl (Nat.le_of_ble_eq_true rfl) (M_h130n4.rcv hm) ?_
  refine m_run (f := 3) (c := 6) hm M_h130n4 (by decide) (fun h136n5 A136n5 fr136n5 M_h136n5 fa136n5 hr136n5 => ?_)
  have FR_h136n5 := FR_h130n4.ztr fr136n5
  have FA_A136n5 := FA_A130n4.ztr fa136n5
  have hk_A136n5 : ∀ i, i < 64 → A136n5 30 i = kr [(0, 1, 1), (1, 1, 4), (2, 1, 3), (3, 6, 2)] i := fun i hi => by rw [hr136n5 i, hk_A130n4 i hi]; exact (kr_snoc [(0, 1, 1), (1, 1, 4), (2, 1, 3)] (3, 6, 2) i).symm
  show WX _ _ _ 139 [(0, .ref m), (1, .int 2), (2, .int 64)] [.int 9, .ref m, .ref m] (n, s, h136n5)
  refine WX.s1 rfl rfl ?_
  refine WX.s1 rfl rfl ?_
  refine WX.callC (vs := [.ref m, .int 9, .int 37, .int (1)]) rfl rfl rfl (Nat.le_of_ble_eq_true rfl) (M_h136n5.rcv hm) ?_
  refine m_run (f := 9) (c := 37) hm M_h136n5 (by decide) (fun h142n6 A142n6 fr142n6 M_h142n6 fa142n6 hr142n6 => ?_)
  have FR_h142n6 := FR_h136n5.ztr fr142n6
  have FA_A142n6 := FA_A136n5.ztr fa142n6
  have hk_A142n6 : ∀ i, i < 64 → A142n6 30 i = kr [(0, 1, 1), (1, 1, 4), (2, 1, 3), (3, 6, 2), (9, 37, 1)] i := fun i hi => by rw [hr142n6 i, hk_A136n5 i hi]; exact (kr_snoc [(0, 1, 1), (1, 1, 4), (2, 1, 3), (3, 6, 2)] (9, 37, 1) i).symm
  show WX _ _ _ 145 [(0, .ref m), (1, .int 2), (2, .int 64)] [.int 46, .ref m] (n, s, h142n6)
  refine WX.s1 rfl rfl ?_
  refine WX.s1 rfl rfl ?_
  refine WX.callC (vs := [.ref m, .int 46, .int 7, .int (-1)]) rfl rfl rfl (Nat.le_of_ble_eq_true rfl) (M_h142n6.rcv hm) ?_
  refine m_run (f := 46) (c := 7) hm M_h142n6 (by decide) (fun h148n7 A148n7 fr148n7 M_h148n7 fa148n7 hr148n7 => ?_)
  have FR_h148n7 := FR_h142n6.ztr fr148n7
  have FA_A148n7 := FA_A142n6.ztr fa148n7
  have hk_A148n7 : ∀ i, i < 64 → A148n7 30 i = kr [(0, 1, 1), (1, 1, 4), (2, 1, 3), (3, 6, 2), (9, 37, 1), (46, 7, -1)] i := fun i hi => by rw [hr148n7 i, hk_A142n6 i hi]; exact (kr_snoc [(0, 1, 1), (1, 1, 4), (2, 1, 3), (3, 6, 2), (9, 37, 1)] (46, 7, -1) i).symm
  show WX _ _ _ 151 [(0, .ref m), (1, .int 2), (2, .int 64)] [.int 53] (n, s, h148n7)
  refine WX.s1 (L' := [(0, .ref m), (1, .int 2), (2, .int 53)]) rfl rfl ?_
  refine WX.s1 rfl rfl ?_
  exact WX.ret1 rfl (kk h148n7 A148n7 FR_h148n7 M_h148n7 FA_A148n7 (fun i hi => (hk_A148n7 i hi).trans ((show ∀ i, i < 64 → kr [(0, 1, 1), (1, 1, 4), (2, 1, 3), (3, 6, 2), (9, 37, 1), (46, 7, -1)] i = qI (kU 2 i) by decide +kernel) i hi)))
theorem m_know {d n s : Nat} {h : Nat → aE} {m : Nat} {I : Nat → Int32} {AR : Nat → Nat → Int32} {LN : Nat → Int64} {tb : Nat} (hm : m + 43 < n) (M_h : MAt h m I AR LN) (htb : tb < 3) {Ψ : Option Value → aH → Prop} (kk : ∀ h' A', Fr h h' (inM m) → MAt h' m I A' LN → FaS AR A' (fun b => b = 30) → (∀ s, s < 64 → A' 30 s = qI (kU tb s)) → Ψ (some (.int (nI (kO tb)))) (n, s, h')) : WO (mM (d + 2)) 175 [.ref m, .int (nI tb)] (n, s, h) Ψ := by
  obtain rfl | rfl | rfl : tb = 0 ∨ tb = 1 ∨ tb = 2 := by omega
  · exact m_know0 hm M_h kk
  · exact m_know1 hm M_h kk
  · exact m_know2 hm M_h kk
theorem m_bestO {d n s : Nat} {h : Nat → aE} {m : Nat} {I : Nat → Int32} {AR : Nat → Nat → Int32} {LN : Nat → Int64} {c0 w0 tb : Nat} {ss : List Nat} (hm : m + 43 < n) (M_h : MAt h m I AR LN) (htb : tb < 3) (hok : SyOk ss) (hss : SyM AR tb ss) (hM : MadeIs I AR c0 w0) (K_I_31 : I 31 = nI ss.length) {Ψ : Option Value → aH → Prop} (kk : ∀ h' I' A' c w, Fr h h' (inM m) → MAt h' m I' A' LN → Fi I I' (fun f => f = 38) → FaS AR A' (fun b => b = 24 ∨ (26 ≤ b ∧ b ≤ 33)) → MadeIs I' A' c w → CntM A' (cdF ss).1 → Ψ (some (.int (nI (boF ss (gT tb - 4)).1))) (n, s, h')) : WO (mM (d + 5)) 171 [.ref m, .int (nI tb)] (n, s, h) Ψ := by
  obtain rfl | rfl | rfl : tb = 0 ∨ tb = 1 ∨ tb = 2 := by omega
  · exact m_bestOrder (tb := 0) hm M_h (Or.inl rfl) hok hss hM K_I_31 (fun h' I' A' c w a1 a2 a3 a4 a5 a6 _ _ _ _ => kk h' I' A' c w a1 a2 a3 a4 a5 a6)
  · exact m_bestOrder1 hm M_h hok hss hM K_I_31 (fun h' I' A' c w a1 a2 a3 a4 a5 a6 _ _ _ _ => kk h' I' A' c w a1 a2 a3 a4 a5 a6)
  · exact m_bestOrder (tb := 2) hm M_h (Or.inr rfl) hok hss hM K_I_31 (fun h' I' A' c w a1 a2 a3 a4 a5 a6 _ _ _ _ => kk h' I' A' c w a1 a2 a3 a4 a5 a6)
theorem qI_eq1 {z : Nat} (h : z < 2 ^ 31) : qI z = 1 ↔ z = 2 := by
  rw [← Int32.toInt_inj, qI_toInt h]
  show (z : Int) - 1 = 1 ↔ _
  omega
set_option maxRecDepth 20000 in
theorem m_asN {d n s : Nat} {h : Nat → aE} {m : Nat} {I : Nat → Int32} {AR : Nat → Nat → Int32} {LN : Nat → Int64} {tb : Nat} {ss : List Nat} (hm : m + 43 < n) (M_h : MAt h m I AR LN) (htb : tb < 3) (hok : SyOk ss) (hss : SyM AR tb ss) (hR : RefT AR tb none) (K_I_31 : I 31 = (nI ss.length)) {Ψ : Option Value → aH → Prop} (kk : ∀ h' A', Fr h h' (inM m) → MAt h' m I A' LN → FaS AR A' (fun b => b = 26 ∨ b = 27 ∨ b = 28 ∨ b = 29) → Ψ (some (.int (match (none).bind (fun t => tabC t ss) with | some c => nI c | none => -1))) (n, s, h')) : WO (mM (d + 4)) 196 [.ref m, .int (nI tb), .int (nI (cdF ss).2), .int (nI (ss.getD 0 0))] (n, s, h) Ψ := by
  refine WO.of (Nat.le_of_ble_eq_true rfl) ?_
  have FR_h : Fr h h (inM m) := Fr.rf
  have FI_I : Fi I I (fun f => f = 40) := Fi.rf
  have FA_AR : FaS AR AR (fun b => b = 26 ∨ b = 27 ∨ b = 28 ∨ b = 29) := FaS.rf
  obtain ⟨hok1, hok2, hok3⟩ := id hok
  have hx0 := hok1 _ (getD_mem (show 0 < ss.length by omega))
  have hd64 := cd_le hok.1
  show WX (lk tX12_asItWas) (mM (d + 3)) Ψ 0 [(0, .ref m), (1, .int (nI tb)), (2, .int (nI (cdF ss).2)), (3, .int (nI (ss.getD 0 0)))] [] (n, s, h)
  refine WX.s1 rfl rfl ?_
  refine WX.mget rfl hm M_h rfl ?_
  refine WX.s1 rfl rfl ?_
  refine WX.mald (c := 10) rfl hm M_h (by decide) (by decide) (by decide) (by decide) (vp_in_nI (N := 3) (by omega) (by decide)) ?_
  rw [nI_clamp (by omega), show AR 10 tb = -1 from hR]
  refine WX.if_ rfl (fun c_6 => absurd c_6 (by decide)) (fun c_6 => ?_)
  refine WX.s1 rfl rfl ?_
  exact WX.ret1 rfl (kk h AR FR_h M_h FA_AR)
set_option maxRecDepth 20000 in
theorem m_asZ {d n s : Nat} {h : Nat → aE} {m : Nat} {I : Nat → Int32} {AR : Nat → Nat → Int32} {LN : Nat → Int64} {tb : Nat} {ss : List Nat} {x : Nat} (hm : m + 43 < n) (M_h : MAt h m I AR LN) (htb : tb < 3) (hok : SyOk ss) (hss : SyM AR tb ss) (hR : RefT AR tb (some (0, aloU x))) (K_I_31 : I 31 = (nI ss.length)) {Ψ : Option Value → aH → Prop} (kk : ∀ h' A', Fr h h' (inM m) → MAt h' m I A' LN → FaS AR A' (fun b => b = 26 ∨ b = 27 ∨ b = 28 ∨ b = 29) → Ψ (some (.int (match ((some (0, aloU x))).bind (fun t => tabC t ss) with | some c => nI c | none => -1))) (n, s, h')) : WO (mM (d + 4)) 196 [.ref m, .int (nI tb), .int (nI (cdF ss).2), .int (nI (ss.getD 0 0))] (n, s, h) Ψ := by
  refine WO.of (Nat.le_of_ble_eq_true rfl) ?_
  have FR_h : Fr h h (inM m) := Fr.rf
  have FI_I : Fi I I (fun f => f = 40) := Fi.rf
  have FA_AR : FaS AR AR (fun b => b = 26 ∨ b = 27 ∨ b = 28 ∨ b = 29) := FaS.rf
  obtain ⟨hok1, hok2, hok3⟩ := id hok
  have hx0 := hok1 _ (getD_mem (show 0 < ss.length by omega))
  have hd64 := cd_le hok.1
  show WX (lk tX12_asItWas) (mM (d + 3)) Ψ 0 [(0, .ref m), (1, .int (nI tb)), (2, .int (nI (cdF ss).2)), (3, .int (nI (ss.getD 0 0)))] [] (n, s, h)
  refine WX.s1 rfl rfl ?_
  refine WX.mget rfl hm M_h rfl ?_
  refine WX.s1 rfl rfl ?_
  refine WX.mald (c := 10) rfl hm M_h (by decide) (by decide) (by decide) (by decide) (vp_in_nI (N := 3) (by omega) (by decide)) ?_
  rw [nI_clamp (by omega), show AR 10 tb = nI 0 from hR.1]
  refine WX.if_ rfl (fun c_6 => ?_) (fun c_6 => absurd (by decide) c_6)
  refine WX.s1 rfl rfl ?_
  refine WX.mget rfl hm M_h rfl ?_
  refine WX.s1 rfl rfl ?_
  refine WX.mald (c := 10) rfl hm M_h (by decide) (by decide) (by decide) (by decide) (vp_in_nI (N := 3) (by omega) (by decide)) ?_
  rw [nI_clamp (by omega), show AR 10 tb = nI 0 from hR.1]
  refine WX.if_ rfl (fun c_17 => ?_) (fun c_17 => absurd (by decide) c_17)
  refine WX.s1 rfl rfl ?_
  refine WX.s1 rfl rfl ?_
  refine WX.icmp rfl (fun c_42 => ?_) (fun c_42 => ?_)
  · skip
    have n_42 : ¬ ((cdF ss).2) = 1 := fun zz_ => c_42 ((nI_eq (a := (cdF ss).2) (b := 1) (by omega) (by omega)).mpr zz_)
    refine WX.s1 rfl rfl ?_
    have h9 := kk h AR FR_h M_h FA_AR
    rw [show (some (0, aloU x) : Option Tb).bind (fun t => tabC t ss) = _ from tabC_alo hok] at h9
    rw [if_neg (fun q => n_42 q.1)] at h9
    exact WX.ret1 rfl h9
  · skip
    have n_42 : ((cdF ss).2) = 1 := (nI_eq (a := (cdF ss).2) (b := 1) (by omega) (by omega)).mp (Classical.not_not.mp c_42)
    refine WX.s1 rfl rfl ?_
    refine WX.mget rfl hm M_h rfl ?_
    refine WX.s1 rfl rfl ?_
    refine WX.s1 rfl rfl ?_
    refine WX.s1 (S' := [.int (64 * (nI tb)), .ref (m + 9)]) rfl rfl ?_
    rw [show (64 * (nI tb)) = nI (64 * tb) from (Int32.ofNat_mul 64 tb).symm]
    refine WX.s1 rfl rfl ?_
    refine WX.s1 (S' := [.int ((nI (64 * tb)) + (nI (ss.getD 0 0))), .ref (m + 9)]) rfl rfl ?_
    rw [show ((nI (64 * tb)) + (nI (ss.getD 0 0))) = nI (64 * tb + ss.getD 0 0) from nI_add (64 * tb) (ss.getD 0 0)]
    refine WX.mald (c := 9) rfl hm M_h (by decide) (by decide) (by decide) (by decide) (vp_in_nI (N := 192) (by omega) (by decide)) ?_
    rw [nI_clamp (by omega), hR.2 _ hx0]
    refine WX.s1 rfl rfl ?_
    refine WX.icmp rfl (fun c_57 => ?_) (fun c_57 => ?_)
    · skip
      refine WX.s1 rfl rfl ?_
      have h9 := kk h AR FR_h M_h FA_AR
      rw [show (some (0, aloU x) : Option Tb).bind (fun t => tabC t ss) = _ from tabC_alo hok] at h9
      rw [if_neg (fun q => c_57 (by show qI (aloU x (ss.getD 0 0)) = 1; rw [show aloU x (ss.getD 0 0) = 2 from if_pos q.2]; rfl))] at h9
      exact WX.ret1 rfl h9
    · skip
      refine WX.s1 rfl rfl ?_
      refine WX.s1 rfl rfl ?_
      have h9 := kk h AR FR_h M_h FA_AR
      rw [show (some (0, aloU x) : Option Tb).bind (fun t => tabC t ss) = _ from tabC_alo hok] at h9
      have hq : aloU x (ss.getD 0 0) = 2 := (qI_eq1 (by unfold aloU; split <;> decide)).mp (Classical.not_not.mp c_57)
      rw [if_pos ⟨n_42, alo_mass.mp (by rw [hq]; decide)⟩] at h9
      exact WX.ret1 rfl h9
set_option maxRecDepth 20000 in
theorem m_asS {d n s : Nat} {h : Nat → aE} {m : Nat} {I : Nat → Int32} {AR : Nat → Nat → Int32} {LN : Nat → Int64} {tb : Nat} {ss : List Nat} {t : Tb} (hm : m + 43 < n) (M_h : MAt h m I AR LN) (ht5 : 5 ≤ t.1) (ht9 : t.1 ≤ 9) (htS : mSum t.2 64 = 2 ^ t.1) (htb : tb < 3) (hok : SyOk ss) (hss : SyM AR tb ss) (hR : RefT AR tb (some t)) (K_I_31 : I 31 = (nI ss.length)) {Ψ : Option Value → aH → Prop} (kk : ∀ h' A', Fr h h' (inM m) → MAt h' m I A' LN → FaS AR A' (fun b => b = 26 ∨ b = 27 ∨ b = 28 ∨ b = 29) → Ψ (some (.int (match ((some t)).bind (fun t => tabC t ss) with | some c => nI c | none => -1))) (n, s, h')) : WO (mM (d + 4)) 196 [.ref m, .int (nI tb), .int (nI (cdF ss).2), .int (nI (ss.getD 0 0))] (n, s, h) Ψ := by
  refine WO.of (Nat.le_of_ble_eq_true rfl) ?_
  have FR_h : Fr h h (inM m) := Fr.rf
  have FI_I : Fi I I (fun f => f = 40) := Fi.rf
  have FA_AR : FaS AR AR (fun b => b = 26 ∨ b = 27 ∨ b = 28 ∨ b = 29) := FaS.rf
  obtain ⟨hok1, hok2, hok3⟩ := id hok
  have hx0 := hok1 _ (getD_mem (show 0 < ss.length by omega))
  have hd64 := cd_le hok.1
  show WX (lk tX12_asItWas) (mM (d + 3)) Ψ 0 [(0, .ref m), (1, .int (nI tb)), (2, .int (nI (cdF ss).2)), (3, .int (nI (ss.getD 0 0)))] [] (n, s, h)
  refine WX.s1 rfl rfl ?_
  refine WX.mget rfl hm M_h rfl ?_
  refine WX.s1 rfl rfl ?_
  refine WX.mald (c := 10) rfl hm M_h (by decide) (by decide) (by decide) (by decide) (vp_in_nI (N := 3) (by omega) (by decide)) ?_
  rw [nI_clamp (by omega), hR.1]
  refine WX.if_ rfl (fun c_6 => ?_) (fun c_6 => absurd ((nI_leI (a := 0) (b := t.1) (by omega) (by omega)).mpr (by omega)) c_6)
  clear c_6
  refine WX.s1 rfl rfl ?_
  refine WX.mget rfl hm M_h rfl ?_
  refine WX.s1 rfl rfl ?_
  refine WX.mald (c := 10) rfl hm M_h (by decide) (by decide) (by decide) (by decide) (vp_in_nI (N := 3) (by omega) (by decide)) ?_
  rw [nI_clamp (by omega), hR.1]
  refine WX.if_ rfl (fun c_17 => absurd c_17 (fun zz_ => absurd ((nI_leI (a := t.1) (b := 0) (by omega) (by omega)).mp zz_) (Nat.not_le.mpr (by omega)))) (fun c_17 => ?_)
  clear c_17
  refine WX.s1 rfl rfl ?_
  refine WX.s1 rfl rfl ?_
  refine WX.s1 rfl rfl ?_
  refine WX.mget rfl hm M_h rfl ?_
  refine WX.s1 rfl rfl ?_
  refine WX.s1 rfl rfl ?_
  refine WX.s1 (S' := [.int (64 * (nI tb)), .ref (m + 9), .int (nI tb), .ref m]) rfl rfl ?_
  rw [show (64 * (nI tb)) = nI (64 * tb) from (Int32.ofNat_mul 64 tb).symm]
  refine WX.s1 rfl rfl ?_
  refine WX.mget rfl hm M_h rfl ?_
  refine WX.s1 rfl rfl ?_
  refine WX.mald (c := 10) rfl hm M_h (by decide) (by decide) (by decide) (by decide) (vp_in_nI (N := 3) (by omega) (by decide)) ?_
  rw [nI_clamp (by omega), hR.1]
  refine WX.callC (vs := [.ref m, .int (nI tb), .ref (m + 9), .int (nI (64 * tb)), .int (nI t.1)]) rfl rfl rfl (Nat.le_of_ble_eq_true rfl) (M_h.rcv hm) ?_
  refine m_rowCost9 hm M_h htb (by omega) (Or.inr ht5) ht9 hR.2 htS hok3 hok2 hss K_I_31 (fun hall h4 A4 c p fr4 M_h4 fa4 hP hRC hcb => ?_) (fun hex => ?_)
  · have ha : ∀ s, s ∈ ss → massU (t.2 s) ≠ 0 := fun s q => by obtain ⟨i, hi, e⟩ := mem_getD q; rw [← e]; exact hall i hi
    have e1 : (some t : Option Tb).bind (fun t => tabC t ss) = some c := by show tabC t ss = _; unfold tabC; rw [if_pos ha, rcF_is (Or.inr ht5) ht9 htS hRC]
    have h9 := kk h4 A4 (FR_h.ztr fr4) M_h4 fa4
    rw [e1] at h9
    exact WX.ret1 rfl h9
  · obtain ⟨i, hi, hz⟩ := hex
    have e1 : (some t : Option Tb).bind (fun t => tabC t ss) = none := tabC_none ⟨_, getD_mem hi, hz⟩
    have h9 := kk h AR FR_h M_h FA_AR
    rw [e1] at h9
    exact WX.ret1 rfl h9
theorem m_asItWas {d n s : Nat} {h : Nat → aE} {m : Nat} {I : Nat → Int32} {AR : Nat → Nat → Int32} {LN : Nat → Int64} {tb : Nat} {ss : List Nat} {tH : Option Tb} {l M : Nat} (hm : m + 43 < n) (M_h : MAt h m I AR LN) (hH : TbO l M tH) (hl : l < 64) (hAl : Alo tH) (htb : tb < 3) (hok : SyOk ss) (hss : SyM AR tb ss) (hR : RefT AR tb tH) (K_I_31 : I 31 = nI ss.length) {Ψ : Option Value → aH → Prop} (kk : ∀ h' A', Fr h h' (inM m) → MAt h' m I A' LN → FaS AR A' (fun b => b = 26 ∨ b = 27 ∨ b = 28 ∨ b = 29) → Ψ (some (.int (match tH.bind (fun t => tabC t ss) with | some c => nI c | none => -1))) (n, s, h')) : WO (mM (d + 4)) 196 [.ref m, .int (nI tb), .int (nI (cdF ss).2), .int (nI (ss.getD 0 0))] (n, s, h) Ψ := by
  cases tH with
  | none => exact m_asN hm M_h htb hok hss hR K_I_31 kk
  | some t =>
    obtain ⟨a1, a2, -, -, -⟩ := id hH
    rcases a1 with z | z
    · obtain ⟨y, hy⟩ := hAl t rfl z
      obtain rfl : t = (0, aloU y) := Prod.ext z hy
      exact m_asZ hm M_h htb hok hss hR K_I_31 kk
    · exact m_asS hm M_h z a2 (tb_pad hH hl).1 htb hok hss hR K_I_31 kk
