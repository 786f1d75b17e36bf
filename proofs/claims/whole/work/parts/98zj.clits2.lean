/-! the literals, the class's: renewed, chosen -/
theorem dF_pos {c : Nat → Nat} {s : Nat} (h : Two c) (hs : s < 256) (hc : c s ≠ 0) : dF c s ≠ 0 := by
  intro hz
  obtain ⟨e, -, e2, e3, e4, e5⟩ := tN_stop c 256 0 (frees_0 c) (by decide) rfl
  have hend := tN_end e3 e2
  obtain ⟨lp, T⟩ := ti_N c 256
  have hP : (tN c 256).2.2 s = 0 := by
    apply Classical.byContradiction
    intro z
    unfold dF at hz
    rw [show (512 : Nat) = 511 + 1 from rfl, dp_s z] at hz
    omega
  obtain ⟨i1, i2, i3, i4, i5, i6, i7, i8, i9, i10⟩ := T
  have hF : ∀ x, x < 256 → (tN c 256).2.1 x = c x := i10
  have b : IsL (tN c 256).2.1 (tN c 256).2.2 (oneK (tN c 256)) (tN c 256).1 (twoK (tN c 256)) := lsK_is _ _ _ _
  have a : IsL (tN c 256).2.1 (tN c 256).2.2 0 (tN c 256).1 (oneK (tN c 256)) := lsK_is _ _ _ _
  rw [hend, e3, ← hend] at b
  rcases b with ⟨-, b⟩ | ⟨b, -⟩
  · have hone : s + 1 = oneK (tN c 256) := by
      apply Classical.byContradiction
      intro z
      exact b s (by omega) ⟨z, by rw [hF s hs]; exact hc, hP⟩
    have q := sumN_at (f := fun k => if (tN c 256).2.2 k = 0 then (tN c 256).2.1 k else 0) (a := s) (tN c 256).1 (fun k hk hne => by
      show (if (tN c 256).2.2 k = 0 then (tN c 256).2.1 k else 0) = 0
      by_cases z : (tN c 256).2.2 k = 0
      · rw [if_pos z]
        apply Classical.byContradiction
        intro y
        exact b k hk ⟨by omega, y, z⟩
      · exact if_neg z)
    rw [i6] at q
    have q2 : sumN c 256 ≤ if (tN c 256).2.2 s = 0 then (tN c 256).2.1 s else 0 := q
    rw [if_pos hP, hF s hs] at q2
    obtain ⟨x, y, h1, h2, h3, h4, h5⟩ := h
    have hr : ∃ r, r < 256 ∧ r ≠ s ∧ c r ≠ 0 := by
      by_cases z : x = s
      · exact ⟨y, h2, by omega, h5⟩
      · exact ⟨x, h1, z, h4⟩
    obtain ⟨r, r1, r2, r3⟩ := hr
    have : c s + c r ≤ sumN c 256 := by
      by_cases z : s < r
      · exact sumN_two (f := c) z r1
      · rw [Nat.add_comm]; exact sumN_two (f := c) (show r < s by omega) hs
    omega
  · omega
theorem lb_nz : ∀ (f : Nat) (c : Nat → Nat) (s : Nat), c s ≠ 0 → lbF f c s ≠ 0 := by
  intro f
  induction f with
  | zero => intro c s h; exact h
  | succ f ih =>
    intro c s h
    by_cases z : topF c ≤ 11
    · rw [lb_1 z]; exact h
    · rw [lb_2 z]
      exact ih (hvF c) s (by show (c s + 1) / 2 ≠ 0; omega)
theorem lb_two {c : Nat → Nat} (f : Nat) (h : Two c) : Two (lbF f c) := by
  obtain ⟨x, y, h1, h2, h3, h4, h5⟩ := h
  exact ⟨x, y, h1, h2, h3, lb_nz f c x h4, lb_nz f c y h5⟩
theorem len_cL {ls : List Nat} (h : LsOk ls) (h2 : Two (cdF ls).1) : LenOk (dF (cL ls)) (topF (cL ls)) ∧ (∀ s, s ∈ ls → dF (cL ls) s ≠ 0) ∧ 1 ≤ lsF (dF (cL ls)) 255 := by
  have t2 : Two (cL ls) := lb_two 32 h2
  have hp : ∀ s, s < 256 → (cdF ls).1 s ≠ 0 → dF (cL ls) s ≠ 0 := fun s hs hc => dF_pos t2 hs (lb_nz 32 _ s hc)
  refine ⟨kraft (top_pos t2) (cL_top h).1, fun s hs => hp s (h.1 s hs) (cd_pos.mpr hs), ?_⟩
  obtain ⟨x, y, h1, h2, h3, h4, h5⟩ := h2
  have qx := (lsF_nz (n := 255) (s := x) (by omega) (hp x h1 h4)).1
  have qy := (lsF_nz (n := 255) (s := y) (by omega) (hp y h2 h5)).1
  omega
theorem two_alk {ls : List Nat} (h : LsOk ls) (h0 : ls ≠ []) (ha : ¬ Alk ls) : Two (cdF ls).1 := by
  have hl : 0 < ls.length := List.length_pos_iff.mpr h0
  have m0 := getD_mem hl
  have hex : ∃ s, s ∈ ls ∧ s ≠ ls.getD 0 0 := by
    apply Classical.byContradiction
    intro z
    exact ha ⟨h0, fun s hs => by
      apply Classical.byContradiction
      intro y
      exact z ⟨s, hs, y⟩⟩
  obtain ⟨s, s1, s2⟩ := hex
  exact ⟨s, ls.getD 0 0, h.1 s s1, h.1 _ m0, s2, cd_pos.mpr s1, cd_pos.mpr m0⟩
def LiS (h : Nat → aE) (ls : List Nat) (c : LC) : Prop := ∃ sh be : Int32, h 89 = .inr (5, [.ref 90, .ref 91, .int (nI ls.length), .ref 92, .ref 96, .ref 100, .ref 67, .ref 106, .int (nI c.1), .int (nI c.2.1), .int sh, .int be]) ∧ (2 ≤ c.1 → sh = (if ls.length < 1024 then 0 else 2) ∧ be = nI c.2.2)
theorem LiS.zfr {h h1 : Nat → aE} {A : Nat → Prop} {ls : List Nat} {c : LC} (r : LiS h ls c) (f : Fr h h1 A) (q : ¬ A 89) : LiS h1 ls c := by
  obtain ⟨a, b, r, y⟩ := r
  exact ⟨a, b, (f _ q).trans r, y⟩
theorem cn_cd (ls : List Nat) (s : Nat) : ls.count s = (cdF ls).1 s := (cd_cnt ls s).symm
theorem lit_ok {h : Nat → aE} {ls : List Nat} (r : LitA h ls) : ∃ lA cA : Nat → Int32, h 90 = .inl (0, 8000, .inl lA) ∧ h 91 = .inl (1, 256, .inl cA) ∧ (∀ i, i < ls.length → ls.getD i 0 < 256 ∧ lA i = sb_b (ls.getD i 0)) ∧ ∀ s, s < 256 → cA s = nI ((cdF ls).1 s) := by
  obtain ⟨a, b, r1, r2, r3, r4⟩ := r
  exact ⟨a, b, r1, r2, r3, fun s hs => by rw [r4 s hs, cn_cd]⟩
set_option maxRecDepth 20000 in
theorem x_renew {d n s : Nat} {h : Nat → aE} {ls : List Nat} {ki by_ sh be : Int32} (hn : 190 ≤ n) (hls : LsOk ls) (hA : LitA h ls) (F_h_89 : h 89 = .inr (5, [.ref 90, .ref 91, .int (nI ls.length), .ref 92, .ref 96, .ref 100, .ref 67, .ref 106, .int ki, .int by_, .int sh, .int be])) (P_h_co : CoX h 96) (P_h_kn : KnX h) (P_h_dx : DX h) (P_h_told : RowE h 106 256) {Ψ : Option Value → aH → Prop} (kk0 : (ls = [] ∨ Alk ls) → ∀ h', Fr h h' (fun j => (67 ≤ j ∧ j ≤ 80) ∨ (96 ≤ j ∧ j ≤ 99) ∨ (101 ≤ j ∧ j ≤ 107)) → CoX h' 96 → KnX h' → DX h' → RowE h' 106 256 → Ψ (some (.int 0)) (n, s, h')) (kkN : ls ≠ [] → ¬ Alk ls → dsY (wtL (dF (cL ls)) (topF (cL ls))) = none → ∀ h', Fr h h' (fun j => (67 ≤ j ∧ j ≤ 80) ∨ (96 ≤ j ∧ j ≤ 99) ∨ (101 ≤ j ∧ j ≤ 107)) → CoX h' 96 → KnX h' → DX h' → RowE h' 106 256 → Ψ (some (.int 0)) (n, s, h')) (kkS : ls ≠ [] → ¬ Alk ls → ∀ y, dsY (wtL (dF (cL ls)) (topF (cL ls))) = some y → ∀ h', Fr h h' (fun j => (67 ≤ j ∧ j ≤ 80) ∨ (96 ≤ j ∧ j ≤ 99) ∨ (101 ≤ j ∧ j ≤ 107)) → CoT h' 96 (dF (cL ls)) (topF (cL ls)) → KnX h' → DX h' → RowIs h' 106 256 (some y) 0 0 → y.length ≤ 129 → Ψ (some (.int 1)) (n, s, h')) : WO (mM (d + 5)) 56 [.ref 89] (n, s, h) Ψ := by
  refine WO.of (Nat.le_of_ble_eq_true rfl) ?_
  have FR_h : Fr h h (fun j => (67 ≤ j ∧ j ≤ 80) ∨ (96 ≤ j ∧ j ≤ 99) ∨ (101 ≤ j ∧ j ≤ 107)) := Fr.rf
  obtain ⟨lA, cA, F_h_90, F_h_91, hy, hc⟩ := lit_ok hA
  have hlen := hls.2
  show WX (lk tX5_renew) (mM (d + 4)) Ψ 0 [(0, .ref 89)] [] (n, s, h)
  refine WX.s1 rfl rfl ?_
  refine WX.get1 (fs := [.ref 90, .ref 91, .int (nI ls.length), .ref 92, .ref 96, .ref 100, .ref 67, .ref 106, .int ki, .int by_, .int sh, .int be]) rfl (by omega) (F_h_89) rfl ?_
  refine WX.callC (vs := [.ref 106]) rfl rfl rfl (Nat.le_of_ble_eq_true rfl) (P_h_told.rcv (by omega)) ?_
  refine w_dropE (by omega) P_h_told (fun h4 fr4 P_h4_told => ?_)
  have F_h4_89 : h4 89 = .inr (5, [.ref 90, .ref 91, .int (nI ls.length), .ref 92, .ref 96, .ref 100, .ref 67, .ref 106, .int ki, .int by_, .int sh, .int be]) := (fr4 _ (by first | decide | omega)).trans F_h_89
  have F_h4_90 : h4 90 = .inl (0, 8000, .inl lA) := (fr4 _ (by first | decide | omega)).trans F_h_90
  have F_h4_91 : h4 91 = .inl (1, 256, .inl cA) := (fr4 _ (by first | decide | omega)).trans F_h_91
  have P_h4_co : CoX h4 96 := P_h_co.zfr fr4 (fun j h1 h2 => by omega)
  have P_h4_kn : KnX h4 := P_h_kn.zfr fr4 (fun j h1 h2 => by omega)
  have P_h4_dx : DX h4 := P_h_dx.zfr fr4 (fun j h1 h2 => by omega)
  have FR_h4 : Fr h h4 (fun j => (67 ≤ j ∧ j ≤ 80) ∨ (96 ≤ j ∧ j ≤ 99) ∨ (101 ≤ j ∧ j ≤ 107)) := FR_h.zsub fr4 (fun j hj => by first | exact hj | exact Or.inl hj | exact Or.inr hj | omega)
  show WX _ _ _ 7 [(0, .ref 89)] [] (n, s, h4)
  refine WX.s1 rfl rfl ?_
  refine WX.get1 (fs := [.ref 90, .ref 91, .int (nI ls.length), .ref 92, .ref 96, .ref 100, .ref 67, .ref 106, .int ki, .int by_, .int sh, .int be]) rfl (by omega) (F_h4_89) rfl ?_
  refine WX.if_ rfl (fun c_11 => ?_) (fun c_11 => ?_)
  · skip
    have n_11 : ls.length = 0 := (nI_eq (a := ls.length) (b := 0) (by omega) (by omega)).mp c_11
    refine WX.s1 rfl rfl ?_
    exact WX.ret3 rfl (by decide) (kk0 (Or.inl (List.length_eq_zero_iff.mp n_11)) h4 FR_h4 P_h4_co P_h4_kn P_h4_dx P_h4_told.toE)
  · skip
    have n_11 : ¬ ls.length = 0 := fun zz_ => c_11 ((nI_eq (a := ls.length) (b := 0) (by omega) (by omega)).mpr zz_)
    have h0 : ls ≠ [] := fun z => n_11 (by rw [z]; rfl)
    have hp := List.length_pos_iff.mpr h0
    have y0 := hy 0 hp
    have ha := alk_cnt h0
    have hcl : ls.count (ls.getD 0 0) ≤ ls.length := List.count_le_length
    refine WX.s1 rfl rfl ?_
    refine WX.get1 (fs := [.ref 90, .ref 91, .int (nI ls.length), .ref 92, .ref 96, .ref 100, .ref 67, .ref 106, .int ki, .int by_, .int sh, .int be]) rfl (by omega) (F_h4_89) rfl ?_
    refine WX.s1 rfl rfl ?_
    refine WX.get1 (fs := [.ref 90, .ref 91, .int (nI ls.length), .ref 92, .ref 96, .ref 100, .ref 67, .ref 106, .int ki, .int by_, .int sh, .int be]) rfl (by omega) (F_h4_89) rfl ?_
    refine WX.s1 rfl rfl ?_
    refine WX.bald1 rfl (by omega) (F_h4_90) (by unfold vp_in; decide) ?_
    rw [show Int32.toNatClampNeg 0 = 0 from rfl, y0.2]
    refine WX.s1 rfl rfl ?_
    refine WX.s1 (S' := [.int ((sb_b (ls.getD 0 0)) &&& 255), .ref 91]) rfl rfl ?_
    rw [(sb_byte _ y0.1).1]
    refine WX.iald1 rfl (Or.inl (by omega)) (F_h4_91) (vp_in_nI (N := 256) (by omega) (by decide)) ?_
    rw [nI_clamp (by have := y0.1; omega), hc _ y0.1, ← cn_cd]
    refine WX.s1 rfl rfl ?_
    refine WX.get1 (fs := [.ref 90, .ref 91, .int (nI ls.length), .ref 92, .ref 96, .ref 100, .ref 67, .ref 106, .int ki, .int by_, .int sh, .int be]) rfl (by omega) (F_h4_89) rfl ?_
    refine WX.icmp rfl (fun c_33 => ?_) (fun c_33 => ?_)
    · skip
      have n_33 : ¬ (ls.count (ls.getD 0 0)) = ls.length := fun zz_ => c_33 ((nI_eq (a := ls.count (ls.getD 0 0)) (b := ls.length) (by omega) (by omega)).mpr zz_)
      have hna : ¬ Alk ls := fun z => n_33 (ha.mp z.2)
      have h2 := two_alk hls h0 hna
      obtain ⟨lk1, lk2, lk3⟩ := len_cL hls h2
      refine WX.s1 rfl rfl ?_
      refine WX.get1 (fs := [.ref 90, .ref 91, .int (nI ls.length), .ref 92, .ref 96, .ref 100, .ref 67, .ref 106, .int ki, .int by_, .int sh, .int be]) rfl (by omega) (F_h4_89) rfl ?_
      refine WX.s1 rfl rfl ?_
      refine WX.get1 (fs := [.ref 90, .ref 91, .int (nI ls.length), .ref 92, .ref 96, .ref 100, .ref 67, .ref 106, .int ki, .int by_, .int sh, .int be]) rfl (by omega) (F_h4_89) rfl ?_
      refine WX.s1 rfl rfl ?_
      refine WX.get1 (fs := [.ref 90, .ref 91, .int (nI ls.length), .ref 92, .ref 96, .ref 100, .ref 67, .ref 106, .int ki, .int by_, .int sh, .int be]) rfl (by omega) (F_h4_89) rfl ?_
      refine WX.callC (vs := [.ref 100, .ref 91, .ref 96]) rfl rfl rfl (Nat.le_of_ble_eq_true rfl) (rcv_ok (by omega) P_h4_kn.1) ?_
      refine x_knSet hn hls h2 hc P_h4_co P_h4_kn F_h4_91 (fun h50 fr50 P_h50_co P_h50_kn => ?_)
      have F_h50_89 : h50 89 = .inr (5, [.ref 90, .ref 91, .int (nI ls.length), .ref 92, .ref 96, .ref 100, .ref 67, .ref 106, .int ki, .int by_, .int sh, .int be]) := (fr50 _ (by first | decide | omega)).trans F_h4_89
      have F_h50_90 : h50 90 = .inl (0, 8000, .inl lA) := (fr50 _ (by first | decide | omega)).trans F_h4_90
      have F_h50_91 : h50 91 = .inl (1, 256, .inl cA) := (fr50 _ (by first | decide | omega)).trans F_h4_91
      have P_h50_dx : DX h50 := P_h4_dx.zfr fr50 (fun j h1 h2 => by omega)
      have P_h50_told : RowIs h50 106 256 (some []) 0 0 := P_h4_told.zfr fr50 (by first | decide | omega) (by first | decide | omega)
      have FR_h50 : Fr h h50 (fun j => (67 ≤ j ∧ j ≤ 80) ∨ (96 ≤ j ∧ j ≤ 99) ∨ (101 ≤ j ∧ j ≤ 107)) := FR_h4.zsub fr50 (fun j hj => by first | exact hj | exact Or.inl hj | exact Or.inr hj | omega)
      show WX _ _ _ 53 [(0, .ref 89)] [] (n, s, h50)
      refine WX.s1 rfl rfl ?_
      refine WX.get1 (fs := [.ref 90, .ref 91, .int (nI ls.length), .ref 92, .ref 96, .ref 100, .ref 67, .ref 106, .int ki, .int by_, .int sh, .int be]) rfl (by omega) (F_h50_89) rfl ?_
      refine WX.s1 rfl rfl ?_
      refine WX.get1 (fs := [.ref 90, .ref 91, .int (nI ls.length), .ref 92, .ref 96, .ref 100, .ref 67, .ref 106, .int ki, .int by_, .int sh, .int be]) rfl (by omega) (F_h50_89) rfl ?_
      refine WX.s1 rfl rfl ?_
      refine WX.get1 (fs := [.ref 90, .ref 91, .int (nI ls.length), .ref 92, .ref 96, .ref 100, .ref 67, .ref 106, .int ki, .int by_, .int sh, .int be]) rfl (by omega) (F_h50_89) rfl ?_
      have hdo : ∃ x y, h50 67 = .inr (2, x :: y) := by obtain ⟨be, ot, wA, cA, r0, r1, -⟩ := P_h50_dx; exact ⟨_, _, r1⟩
      obtain ⟨dx, dy, hd67⟩ := hdo
      refine WX.callC (vs := [.ref 67, .ref 96, .ref 106]) rfl rfl rfl (Nat.le_of_ble_eq_true rfl) (rcv_ok (by omega) hd67) ?_
      refine x_dDesc hn lk3 P_h50_dx P_h50_co P_h50_told (fun e h9 fr9 D9 R9 => ?_) (fun y e h9 fr9 D9 R9 hyl => ?_)
      · exact WX.ret3 rfl (by decide) (kkN h0 hna e h9 (FR_h50.zsub fr9 (fun j hj => by omega)) (P_h50_co.toX.zfr fr9 (fun j h1 h2 => by omega)) (P_h50_kn.zfr fr9 (fun j h1 h2 => by omega)) D9 R9.toE)
      · exact WX.ret3 rfl (by decide) (kkS h0 hna y e h9 (FR_h50.zsub fr9 (fun j hj => by omega)) (P_h50_co.zfr fr9 (fun j h1 h2 => by omega)) (P_h50_kn.zfr fr9 (fun j h1 h2 => by omega)) D9 R9 hyl)
    · skip
      have n_33 : (ls.count (ls.getD 0 0)) = ls.length := (nI_eq (a := ls.count (ls.getD 0 0)) (b := ls.length) (by omega) (by omega)).mp (Classical.not_not.mp c_33)
      refine WX.s1 rfl rfl ?_
      exact WX.ret3 rfl (by decide) (kk0 (Or.inr ⟨h0, ha.mpr n_33⟩) h4 FR_h4 P_h4_co P_h4_kn P_h4_dx P_h4_told.toE)
set_option maxRecDepth 20000 in
theorem x_lchN {d n s : Nat} {h : Nat → aE} {ls : List Nat} {tC : Option Le} {ki by_ sh be : Int32} (hn : 190 ≤ n) (hls : LsOk ls) (hA : LitA h ls) (F_h_89 : h 89 = .inr (5, [.ref 90, .ref 91, .int (nI ls.length), .ref 92, .ref 96, .ref 100, .ref 67, .ref 106, .int ki, .int by_, .int sh, .int be])) (P_h_he : CoH h 92 tC) {Ψ : Option Value → aH → Prop} (kk : ∀ h', Fr h h' (fun j => j = 89) → LiS h' ls (lc3 tC ls (lc1 ls)) → Ψ (some (.int (nI (lc3 tC ls (lc1 ls)).2.1))) (n, s, h')) : WO (mM (d + 4)) 57 [.ref 89, .int 0] (n, s, h) Ψ := by
  refine WO.of (Nat.le_of_ble_eq_true rfl) ?_
  have FR_h : Fr h h (fun j => j = 89) := Fr.rf
  obtain ⟨lA, cA, F_h_90, F_h_91, hy, hc⟩ := lit_ok hA
  have hlen := hls.2
  have hhp : hpF ls.length ≤ 3 := by unfold hpF; split <;> (try split) <;> omega
  show WX (lk tX5_choose) (mM (d + 3)) Ψ 0 [(0, .ref 89), (1, .int 0)] [] (n, s, h)
  refine WX.s1 rfl rfl ?_
  refine WX.s1 rfl rfl ?_
  refine WX.put1 (fs := [.ref 90, .ref 91, .int (nI ls.length), .ref 92, .ref 96, .ref 100, .ref 67, .ref 106, .int ki, .int by_, .int sh, .int be]) (fs' := [.ref 90, .ref 91, .int (nI ls.length), .ref 92, .ref 96, .ref 100, .ref 67, .ref 106, .int 0, .int by_, .int sh, .int be]) rfl (by omega) (F_h_89) (Nat.le_of_ble_eq_true rfl) (rfl) rfl (fun h2 e_h2 => ?_)
  have F_h2_89 : h2 89 = .inr (5, [.ref 90, .ref 91, .int (nI ls.length), .ref 92, .ref 96, .ref 100, .ref 67, .ref 106, .int 0, .int by_, .int sh, .int be]) := by rw [e_h2]; exact va_up_eq
  have F_h2_90 : h2 90 = .inl (0, 8000, .inl lA) := by rw [e_h2, va_up_neq (by decide)]; exact F_h_90
  have F_h2_91 : h2 91 = .inl (1, 256, .inl cA) := by rw [e_h2, va_up_neq (by decide)]; exact F_h_91
  have P_h2_he : CoH h2 92 tC := P_h_he.zfr (Fr.of e_h2) (fun j h1 h2 => by omega)
  have FR_h2 : Fr h h2 (fun j => j = 89) := FR_h.zup e_h2 (by first | exact rfl | exact Or.inl rfl | exact Or.inr rfl | exact ⟨by decide, by decide⟩ | decide | omega)
  clear F_h_89 F_h_90 F_h_91 P_h_he FR_h e_h2
  refine WX.s1 rfl rfl ?_
  refine WX.s1 rfl rfl ?_
  refine WX.callC (vs := [.ref 89]) rfl rfl rfl (Nat.le_of_ble_eq_true rfl) (rcv_ok (by omega) F_h2_89) ?_
  refine x_lpl hn hlen F_h2_89 ?_
  show WX _ _ _ 10 [(0, .ref 89), (1, .int 0)] [.int (nI (hpF ls.length)), .ref 89] (n, s, h2)
  refine WX.s1 rfl rfl ?_
  refine WX.get1 (fs := [.ref 90, .ref 91, .int (nI ls.length), .ref 92, .ref 96, .ref 100, .ref 67, .ref 106, .int 0, .int by_, .int sh, .int be]) rfl (by omega) (F_h2_89) rfl ?_
  refine WX.s1 (S' := [.int ((nI (hpF ls.length)) + (nI ls.length)), .ref 89]) rfl rfl ?_
  rw [show ((nI (hpF ls.length)) + (nI ls.length)) = nI (hpF ls.length + ls.length) from nI_add (hpF ls.length) ls.length]
  refine WX.put1 (fs := [.ref 90, .ref 91, .int (nI ls.length), .ref 92, .ref 96, .ref 100, .ref 67, .ref 106, .int 0, .int by_, .int sh, .int be]) (fs' := [.ref 90, .ref 91, .int (nI ls.length), .ref 92, .ref 96, .ref 100, .ref 67, .ref 106, .int 0, .int (nI (hpF ls.length + ls.length)), .int sh, .int be]) rfl (by omega) (F_h2_89) (Nat.le_of_ble_eq_true rfl) (rfl) rfl (fun h15 e_h15 => ?_)
  have F_h15_89 : h15 89 = .inr (5, [.ref 90, .ref 91, .int (nI ls.length), .ref 92, .ref 96, .ref 100, .ref 67, .ref 106, .int 0, .int (nI (hpF ls.length + ls.length)), .int sh, .int be]) := by rw [e_h15]; exact va_up_eq
  have F_h15_90 : h15 90 = .inl (0, 8000, .inl lA) := by rw [e_h15, va_up_neq (by decide)]; exact F_h2_90
  have F_h15_91 : h15 91 = .inl (1, 256, .inl cA) := by rw [e_h15, va_up_neq (by decide)]; exact F_h2_91
  have P_h15_he : CoH h15 92 tC := P_h2_he.zfr (Fr.of e_h15) (fun j h1 h2 => by omega)
  have FR_h15 : Fr h h15 (fun j => j = 89) := FR_h2.zup e_h15 (by first | exact rfl | exact Or.inl rfl | exact Or.inr rfl | exact ⟨by decide, by decide⟩ | decide | omega)
  clear F_h2_89 F_h2_90 F_h2_91 P_h2_he FR_h2 e_h15
  have t119 : ∀ (hL : Nat → aE), Fr h hL (fun j => j = 89) → LiS hL ls (lc3 tC ls (lc1 ls)) → WX (lk tX5_choose) (mM (d + 3)) Ψ 119 [(0, .ref 89), (1, .int 0)] [] (n, s, hL) := by
    intro hL FR_hL hL9
    obtain ⟨sh9, be9, F_hL_89, hq9⟩ := id hL9
    refine WX.s1 rfl rfl ?_
    refine WX.get1 (fs := [.ref 90, .ref 91, .int (nI ls.length), .ref 92, .ref 96, .ref 100, .ref 67, .ref 106, .int (nI (lc3 tC ls (lc1 ls)).1), .int (nI (lc3 tC ls (lc1 ls)).2.1), .int sh9, .int be9]) rfl (by omega) (F_hL_89) rfl ?_
    exact WX.ret1 rfl (kk hL FR_hL hL9)
  have t99 : ∀ (hL : Nat → aE), Fr h hL (fun j => j = 89) → LiS hL ls (lc3 tC ls (lc1 ls)) → (lc3 tC ls (lc1 ls)).2.1 < 2 ^ 20 → WX (lk tX5_choose) (mM (d + 3)) Ψ 99 [(0, .ref 89), (1, .int 0)] [] (n, s, hL) := by
    intro hL FR_hL hL9 hb9
    obtain ⟨sh9, be9, F_hL_89, hq9⟩ := id hL9
    have F_hL_90 : hL 90 = .inl (0, 8000, .inl lA) := (FR_hL _ (by decide)).trans ((FR_h15 _ (by decide)).symm.trans F_h15_90)
    have F_hL_91 : hL 91 = .inl (1, 256, .inl cA) := (FR_hL _ (by decide)).trans ((FR_h15 _ (by decide)).symm.trans F_h15_91)
    have fr9 : Fr h15 hL (fun j => j = 89) := fun j hj => (FR_hL j hj).trans (FR_h15 j hj).symm
    have P_hL_he : CoH hL 92 tC := P_h15_he.zfr fr9 (fun j h1 h2 => by omega)
    refine WX.s1 rfl rfl ?_
    refine WX.if_ rfl (fun c_100 => ?_) (fun c_100 => absurd (by decide) c_100)
    clear c_100
    exact t119 hL FR_hL hL9
  have t75 : ∀ (hL : Nat → aE), Fr h hL (fun j => j = 89) → hL 89 = .inr (5, [.ref 90, .ref 91, .int (nI ls.length), .ref 92, .ref 96, .ref 100, .ref 67, .ref 106, .int (nI (lc1 ls).1), .int (nI (lc1 ls).2.1), .int sh, .int be]) → (lc1 ls).2.1 < 2 ^ 19 → (lc1 ls).1 < 2 → WX (lk tX5_choose) (mM (d + 3)) Ψ 75 [(0, .ref 89), (1, .int 0)] [] (n, s, hL) := by
    intro hL FR_hL F_hL_89 hb9 hk9
    have F_hL_90 : hL 90 = .inl (0, 8000, .inl lA) := (FR_hL _ (by decide)).trans ((FR_h15 _ (by decide)).symm.trans F_h15_90)
    have F_hL_91 : hL 91 = .inl (1, 256, .inl cA) := (FR_hL _ (by decide)).trans ((FR_h15 _ (by decide)).symm.trans F_h15_91)
    have fr9 : Fr h15 hL (fun j => j = 89) := fun j hj => (FR_hL j hj).trans (FR_h15 j hj).symm
    have P_hL_he : CoH hL 92 tC := P_h15_he.zfr fr9 (fun j h1 h2 => by omega)
    have hl1 : LiS hL ls (lc1 ls) := ⟨sh, be, F_hL_89, fun z => absurd z (by omega)⟩
    cases tC with
    | none =>
      obtain ⟨tp9, a9, b9, c9, F_hL_92, -⟩ := id P_hL_he
      refine WX.s1 rfl rfl ?_
      refine WX.get1 (fs := [.ref 90, .ref 91, .int (nI ls.length), .ref 92, .ref 96, .ref 100, .ref 67, .ref 106, .int (nI (lc1 ls).1), .int (nI (lc1 ls).2.1), .int sh, .int be]) rfl (by omega) (F_hL_89) rfl ?_
      refine WX.s1 rfl rfl ?_
      refine WX.get1 (fs := [.ref 90, .ref 91, .int (nI ls.length), .ref 92, .ref 96, .ref 100, .ref 67, .ref 106, .int (nI (lc1 ls).1), .int (nI (lc1 ls).2.1), .int sh, .int be]) rfl (by omega) (F_hL_89) rfl ?_
      refine WX.callC (vs := [.ref 92, .ref 91]) rfl rfl rfl (Nat.le_of_ble_eq_true rfl) (rcv_ok (by omega) F_hL_92) ?_
      refine x_cCan0 (by omega) F_hL_92 ?_
      show WX _ _ _ 86 [(0, .ref 89), (1, .int 0)] [.int 0] (n, s, hL)
      refine WX.if_ rfl (fun c_86 => ?_) (fun c_86 => absurd (by decide) c_86)
      clear c_86
      exact t99 hL FR_hL hl1 (by show (lc1 ls).2.1 < _; omega)
    | some tt =>
      obtain ⟨lB, kB, eB, ⟨F_hL_92, F_hL_93, -, -⟩, hD1, hD2, hD3⟩ := id P_hL_he
      have hef : lc3 (some tt) ls (lc1 ls) = if ∀ s, s ∈ ls → tt.1 s ≠ 0 then lcS (lc1 ls) 3 (tob tt.1 ls) ls.length else (lc1 ls) := rfl
      have htb := tob_le (fun s hs => Nat.le_trans (hD3.2.2.1 s hs) hD3.2.1) hls
      refine WX.s1 rfl rfl ?_
      refine WX.get1 (fs := [.ref 90, .ref 91, .int (nI ls.length), .ref 92, .ref 96, .ref 100, .ref 67, .ref 106, .int (nI (lc1 ls).1), .int (nI (lc1 ls).2.1), .int sh, .int be]) rfl (by omega) (F_hL_89) rfl ?_
      refine WX.s1 rfl rfl ?_
      refine WX.get1 (fs := [.ref 90, .ref 91, .int (nI ls.length), .ref 92, .ref 96, .ref 100, .ref 67, .ref 106, .int (nI (lc1 ls).1), .int (nI (lc1 ls).2.1), .int sh, .int be]) rfl (by omega) (F_hL_89) rfl ?_
      refine WX.callC (vs := [.ref 92, .ref 91]) rfl rfl rfl (Nat.le_of_ble_eq_true rfl) (rcv_ok (by omega) F_hL_92) ?_
      refine x_cCan (k := 92) (L := tt.1) (cnt := (cdF ls).1) (by omega) (by omega) (fun s hs => ⟨hD1 s hs, by have q1 := hD3.2.2.1 s hs; have q2 := hD3.2.1; omega⟩) (fun s hs => ⟨hc s hs, by have q1 := cd_all_le (ls := ls) s; omega⟩) F_hL_92 F_hL_93 F_hL_91 (fun hall => ?_) (fun hex => ?_)
      · have hall2 : ∀ s, s ∈ ls → tt.1 s ≠ 0 := fun s hs => hall s (hls.1 s hs) (cd_pos.mpr hs)
        rw [if_pos hall2] at hef
        show WX _ _ _ 86 [(0, .ref 89), (1, .int 0)] [.int 1] (n, s, hL)
        refine WX.if_ rfl (fun c_86 => absurd c_86 (by decide)) (fun c_86 => ?_)
        clear c_86
        refine WX.s1 rfl rfl ?_
        refine WX.s1 rfl rfl ?_
        refine WX.s1 rfl rfl ?_
        refine WX.get1 (fs := [.ref 90, .ref 91, .int (nI ls.length), .ref 92, .ref 96, .ref 100, .ref 67, .ref 106, .int (nI (lc1 ls).1), .int (nI (lc1 ls).2.1), .int sh, .int be]) rfl (by omega) (F_hL_89) rfl ?_
        refine WX.s1 rfl rfl ?_
        refine WX.callC (vs := [.ref 89, .int (nI 3), .ref 92, .int (nI 0)]) rfl rfl rfl (Nat.le_of_ble_eq_true rfl) (rcv_ok (by omega) F_hL_89) ?_
        refine x_lcons (q := 92) hn (by omega) (by decide) (fun s hs => ⟨hD1 s hs, Nat.le_trans (hD3.2.2.1 s hs) hD3.2.1⟩) hls hy (by decide) (by omega) (st_ := tob tt.1 ls) (Nat.zero_add _).symm F_hL_89 F_hL_90 F_hL_92 F_hL_93 (fun hc1 h2 fr2 F2 => ?_) (fun hc1 => ?_)
        · unfold lcS at hef
          rw [if_pos hc1] at hef
          exact t99 h2 (FR_hL.ztr fr2) (by rw [hef]; exact ⟨_, _, F2, fun _ => ⟨rfl, rfl⟩⟩) (by rw [hef]; show chd ls.length + tob tt.1 ls < _; have := hc1.2; omega)
        · unfold lcS at hef
          rw [if_neg hc1] at hef
          exact t99 hL FR_hL (by rw [hef]; exact hl1) (by rw [hef]; omega)
      · have hno : ¬ ∀ s, s ∈ ls → tt.1 s ≠ 0 := fun z => by obtain ⟨s, q1, q2, q3⟩ := hex; exact z s (cd_pos.mp q2) q3
        rw [if_neg hno] at hef
        show WX _ _ _ 86 [(0, .ref 89), (1, .int 0)] [.int 0] (n, s, hL)
        refine WX.if_ rfl (fun c_86 => ?_) (fun c_86 => absurd (by decide) c_86)
        clear c_86
        exact t99 hL FR_hL (by rw [hef]; exact hl1) (by rw [hef]; omega)
  refine WX.s1 rfl rfl ?_
  refine WX.get1 (fs := [.ref 90, .ref 91, .int (nI ls.length), .ref 92, .ref 96, .ref 100, .ref 67, .ref 106, .int 0, .int (nI (hpF ls.length + ls.length)), .int sh, .int be]) rfl (by omega) (F_h15_89) rfl ?_
  refine WX.if_ rfl (fun c_22 => ?_) (fun c_22 => ?_)
  · skip
    have n_22 : ls.length ≤ 0 := (nI_leI (a := ls.length) (b := 0) (by omega) (by omega)).mp c_22
    have e1 : lc1 ls = (0, hpF ls.length + ls.length, 0) := if_neg (fun z => by have := z.2; omega)
    rw [e1] at t75
    exact t75 h15 FR_h15 F_h15_89 (by show hpF ls.length + ls.length < _; omega) (show 0 < 2 by decide)
  · skip
    have n_22 : 0 < ls.length := Nat.lt_of_not_le (fun zz_ => c_22 ((nI_leI (a := ls.length) (b := 0) (by omega) (by omega)).mpr zz_))
    have h0 : ls ≠ [] := fun z => by rw [z] at n_22; exact absurd n_22 (by decide)
    have hp := List.length_pos_iff.mpr h0
    have y0 := hy 0 hp
    have ha := alk_cnt h0
    have hcl : ls.count (ls.getD 0 0) ≤ ls.length := List.count_le_length
    refine WX.s1 rfl rfl ?_
    refine WX.get1 (fs := [.ref 90, .ref 91, .int (nI ls.length), .ref 92, .ref 96, .ref 100, .ref 67, .ref 106, .int 0, .int (nI (hpF ls.length + ls.length)), .int sh, .int be]) rfl (by omega) (F_h15_89) rfl ?_
    refine WX.s1 rfl rfl ?_
    refine WX.get1 (fs := [.ref 90, .ref 91, .int (nI ls.length), .ref 92, .ref 96, .ref 100, .ref 67, .ref 106, .int 0, .int (nI (hpF ls.length + ls.length)), .int sh, .int be]) rfl (by omega) (F_h15_89) rfl ?_
    refine WX.s1 rfl rfl ?_
    refine WX.bald1 rfl (by omega) (F_h15_90) (by unfold vp_in; decide) ?_
    rw [show Int32.toNatClampNeg 0 = 0 from rfl, y0.2]
    refine WX.s1 rfl rfl ?_
    refine WX.s1 (S' := [.int ((sb_b (ls.getD 0 0)) &&& 255), .ref 91]) rfl rfl ?_
    rw [(sb_byte _ y0.1).1]
    refine WX.iald1 rfl (Or.inl (by omega)) (F_h15_91) (vp_in_nI (N := 256) (by omega) (by decide)) ?_
    rw [nI_clamp (by have := y0.1; omega), hc _ y0.1, ← cn_cd]
    refine WX.s1 rfl rfl ?_
    refine WX.get1 (fs := [.ref 90, .ref 91, .int (nI ls.length), .ref 92, .ref 96, .ref 100, .ref 67, .ref 106, .int 0, .int (nI (hpF ls.length + ls.length)), .int sh, .int be]) rfl (by omega) (F_h15_89) rfl ?_
    refine WX.icmp rfl (fun c_44 => ?_) (fun c_44 => ?_)
    · skip
      have n_44 : ¬ (ls.count (ls.getD 0 0)) = ls.length := fun zz_ => c_44 ((nI_eq (a := ls.count (ls.getD 0 0)) (b := ls.length) (by omega) (by omega)).mpr zz_)
      have e1 : lc1 ls = (0, hpF ls.length + ls.length, 0) := if_neg (fun z => n_44 (ha.mp z.1.2))
      rw [e1] at t75
      exact t75 h15 FR_h15 F_h15_89 (by show hpF ls.length + ls.length < _; omega) (show 0 < 2 by decide)
    · skip
      have n_44 : (ls.count (ls.getD 0 0)) = ls.length := (nI_eq (a := ls.count (ls.getD 0 0)) (b := ls.length) (by omega) (by omega)).mp (Classical.not_not.mp c_44)
      refine WX.s1 rfl rfl ?_
      refine WX.callC (vs := [.ref 89]) rfl rfl rfl (Nat.le_of_ble_eq_true rfl) (rcv_ok (by omega) F_h15_89) ?_
      refine x_lpl hn hlen F_h15_89 ?_
      show WX _ _ _ 51 [(0, .ref 89), (1, .int 0)] [.int (nI (hpF ls.length))] (n, s, h15)
      refine WX.s1 rfl rfl ?_
      refine WX.s1 (S' := [.int ((nI (hpF ls.length)) + 1)]) rfl rfl ?_
      rw [show ((nI (hpF ls.length)) + 1) = nI (hpF ls.length + 1) from nI_add (hpF ls.length) 1]
      refine WX.s1 rfl rfl ?_
      refine WX.get1 (fs := [.ref 90, .ref 91, .int (nI ls.length), .ref 92, .ref 96, .ref 100, .ref 67, .ref 106, .int 0, .int (nI (hpF ls.length + ls.length)), .int sh, .int be]) rfl (by omega) (F_h15_89) rfl ?_
      refine WX.icmp rfl (fun c_57 => ?_) (fun c_57 => ?_)
      · skip
        have n_57 : (hpF ls.length + ls.length) ≤ (hpF ls.length + 1) := (nI_leI (a := hpF ls.length + ls.length) (b := hpF ls.length + 1) (by omega) (by omega)).mp c_57
        have e1 : lc1 ls = (0, hpF ls.length + ls.length, 0) := if_neg (fun z => by have := z.2; omega)
        rw [e1] at t75
        exact t75 h15 FR_h15 F_h15_89 (by show hpF ls.length + ls.length < _; omega) (show 0 < 2 by decide)
      · skip
        have n_57 : (hpF ls.length + 1) < (hpF ls.length + ls.length) := Nat.lt_of_not_le (fun zz_ => c_57 ((nI_leI (a := hpF ls.length + ls.length) (b := hpF ls.length + 1) (by omega) (by omega)).mpr zz_))
        refine WX.s1 rfl rfl ?_
        refine WX.s1 rfl rfl ?_
        refine WX.put1 (fs := [.ref 90, .ref 91, .int (nI ls.length), .ref 92, .ref 96, .ref 100, .ref 67, .ref 106, .int 0, .int (nI (hpF ls.length + ls.length)), .int sh, .int be]) (fs' := [.ref 90, .ref 91, .int (nI ls.length), .ref 92, .ref 96, .ref 100, .ref 67, .ref 106, .int 1, .int (nI (hpF ls.length + ls.length)), .int sh, .int be]) rfl (by omega) (F_h15_89) (Nat.le_of_ble_eq_true rfl) (rfl) rfl (fun h62 e_h62 => ?_)
        have F_h62_89 : h62 89 = .inr (5, [.ref 90, .ref 91, .int (nI ls.length), .ref 92, .ref 96, .ref 100, .ref 67, .ref 106, .int 1, .int (nI (hpF ls.length + ls.length)), .int sh, .int be]) := by rw [e_h62]; exact va_up_eq
        have F_h62_90 : h62 90 = .inl (0, 8000, .inl lA) := by rw [e_h62, va_up_neq (by decide)]; exact F_h15_90
        have F_h62_91 : h62 91 = .inl (1, 256, .inl cA) := by rw [e_h62, va_up_neq (by decide)]; exact F_h15_91
        have P_h62_he : CoH h62 92 tC := P_h15_he.zfr (Fr.of e_h62) (fun j h1 h2 => by omega)
        have FR_h62 : Fr h h62 (fun j => j = 89) := FR_h15.zup e_h62 (by first | exact rfl | exact Or.inl rfl | exact Or.inr rfl | exact ⟨by decide, by decide⟩ | decide | omega)
        clear F_h15_89 F_h15_90 F_h15_91 P_h15_he FR_h15 e_h62
        refine WX.s1 rfl rfl ?_
        refine WX.s1 rfl rfl ?_
        refine WX.callC (vs := [.ref 89]) rfl rfl rfl (Nat.le_of_ble_eq_true rfl) (rcv_ok (by omega) F_h62_89) ?_
        refine x_lpl hn hlen F_h62_89 ?_
        show WX _ _ _ 70 [(0, .ref 89), (1, .int 0)] [.int (nI (hpF ls.length)), .ref 89] (n, s, h62)
        refine WX.s1 rfl rfl ?_
        refine WX.s1 (S' := [.int ((nI (hpF ls.length)) + 1), .ref 89]) rfl rfl ?_
        rw [show ((nI (hpF ls.length)) + 1) = nI (hpF ls.length + 1) from nI_add (hpF ls.length) 1]
        refine WX.put1 (fs := [.ref 90, .ref 91, .int (nI ls.length), .ref 92, .ref 96, .ref 100, .ref 67, .ref 106, .int 1, .int (nI (hpF ls.length + ls.length)), .int sh, .int be]) (fs' := [.ref 90, .ref 91, .int (nI ls.length), .ref 92, .ref 96, .ref 100, .ref 67, .ref 106, .int 1, .int (nI (hpF ls.length + 1)), .int sh, .int be]) rfl (by omega) (F_h62_89) (Nat.le_of_ble_eq_true rfl) (rfl) rfl (fun h72 e_h72 => ?_)
        have F_h72_89 : h72 89 = .inr (5, [.ref 90, .ref 91, .int (nI ls.length), .ref 92, .ref 96, .ref 100, .ref 67, .ref 106, .int 1, .int (nI (hpF ls.length + 1)), .int sh, .int be]) := by rw [e_h72]; exact va_up_eq
        have F_h72_90 : h72 90 = .inl (0, 8000, .inl lA) := by rw [e_h72, va_up_neq (by decide)]; exact F_h62_90
        have F_h72_91 : h72 91 = .inl (1, 256, .inl cA) := by rw [e_h72, va_up_neq (by decide)]; exact F_h62_91
        have P_h72_he : CoH h72 92 tC := P_h62_he.zfr (Fr.of e_h72) (fun j h1 h2 => by omega)
        have FR_h72 : Fr h h72 (fun j => j = 89) := FR_h62.zup e_h72 (by first | exact rfl | exact Or.inl rfl | exact Or.inr rfl | exact ⟨by decide, by decide⟩ | decide | omega)
        clear F_h62_89 F_h62_90 F_h62_91 P_h62_he FR_h62 e_h72
        have e1 : lc1 ls = (1, hpF ls.length + 1, 0) := if_pos ⟨⟨h0, ha.mpr n_44⟩, n_57⟩
        rw [e1] at t75
        exact t75 h72 FR_h72 F_h72_89 (by show hpF ls.length + 1 < _; omega) (show 1 < 2 by decide)
set_option maxRecDepth 20000 in
theorem x_lchS {d n s : Nat} {h : Nat → aE} {ls : List Nat} {tC : Option Le} {ki by_ sh be : Int32} {L : Nat → Nat} {t : Nat} {y : List Nat} (hn : 190 ≤ n) (hls : LsOk ls) (hA : LitA h ls) (hyl : y.length ≤ 129) (F_h_89 : h 89 = .inr (5, [.ref 90, .ref 91, .int (nI ls.length), .ref 92, .ref 96, .ref 100, .ref 67, .ref 106, .int ki, .int by_, .int sh, .int be])) (P_h_he : CoH h 92 tC) (P_h_fr : CoT h 96 L t) (P_h_told : RowIs h 106 256 (some y) 0 0) {Ψ : Option Value → aH → Prop} (kk : ∀ h', Fr h h' (fun j => j = 89) → LiS h' ls (lc2 (some y) L ls (lc3 tC ls (lc1 ls))) → Ψ (some (.int (nI (lc2 (some y) L ls (lc3 tC ls (lc1 ls))).2.1))) (n, s, h')) : WO (mM (d + 4)) 57 [.ref 89, .int 1] (n, s, h) Ψ := by
  refine WO.of (Nat.le_of_ble_eq_true rfl) ?_
  have FR_h : Fr h h (fun j => j = 89) := Fr.rf
  obtain ⟨lA, cA, F_h_90, F_h_91, hy, hc⟩ := lit_ok hA
  have hlen := hls.2
  have hhp : hpF ls.length ≤ 3 := by unfold hpF; split <;> (try split) <;> omega
  show WX (lk tX5_choose) (mM (d + 3)) Ψ 0 [(0, .ref 89), (1, .int 1)] [] (n, s, h)
  refine WX.s1 rfl rfl ?_
  refine WX.s1 rfl rfl ?_
  refine WX.put1 (fs := [.ref 90, .ref 91, .int (nI ls.length), .ref 92, .ref 96, .ref 100, .ref 67, .ref 106, .int ki, .int by_, .int sh, .int be]) (fs' := [.ref 90, .ref 91, .int (nI ls.length), .ref 92, .ref 96, .ref 100, .ref 67, .ref 106, .int 0, .int by_, .int sh, .int be]) rfl (by omega) (F_h_89) (Nat.le_of_ble_eq_true rfl) (rfl) rfl (fun h2 e_h2 => ?_)
  have F_h2_89 : h2 89 = .inr (5, [.ref 90, .ref 91, .int (nI ls.length), .ref 92, .ref 96, .ref 100, .ref 67, .ref 106, .int 0, .int by_, .int sh, .int be]) := by rw [e_h2]; exact va_up_eq
  have F_h2_90 : h2 90 = .inl (0, 8000, .inl lA) := by rw [e_h2, va_up_neq (by decide)]; exact F_h_90
  have F_h2_91 : h2 91 = .inl (1, 256, .inl cA) := by rw [e_h2, va_up_neq (by decide)]; exact F_h_91
  have P_h2_he : CoH h2 92 tC := P_h_he.zfr (Fr.of e_h2) (fun j h1 h2 => by omega)
  have P_h2_fr : CoT h2 96 L t := P_h_fr.zfr (Fr.of e_h2) (fun j h1 h2 => by omega)
  have P_h2_told : RowIs h2 106 256 (some y) 0 0 := P_h_told.zfr (Fr.of e_h2) (by decide) (by decide)
  have FR_h2 : Fr h h2 (fun j => j = 89) := FR_h.zup e_h2 (by first | exact rfl | exact Or.inl rfl | exact Or.inr rfl | exact ⟨by decide, by decide⟩ | decide | omega)
  clear F_h_89 F_h_90 F_h_91 P_h_he P_h_fr P_h_told FR_h e_h2
  refine WX.s1 rfl rfl ?_
  refine WX.s1 rfl rfl ?_
  refine WX.callC (vs := [.ref 89]) rfl rfl rfl (Nat.le_of_ble_eq_true rfl) (rcv_ok (by omega) F_h2_89) ?_
  refine x_lpl hn hlen F_h2_89 ?_
  show WX _ _ _ 10 [(0, .ref 89), (1, .int 1)] [.int (nI (hpF ls.length)), .ref 89] (n, s, h2)
  refine WX.s1 rfl rfl ?_
  refine WX.get1 (fs := [.ref 90, .ref 91, .int (nI ls.length), .ref 92, .ref 96, .ref 100, .ref 67, .ref 106, .int 0, .int by_, .int sh, .int be]) rfl (by omega) (F_h2_89) rfl ?_
  refine WX.s1 (S' := [.int ((nI (hpF ls.length)) + (nI ls.length)), .ref 89]) rfl rfl ?_
  rw [show ((nI (hpF ls.length)) + (nI ls.length)) = nI (hpF ls.length + ls.length) from nI_add (hpF ls.length) ls.length]
  refine WX.put1 (fs := [.ref 90, .ref 91, .int (nI ls.length), .ref 92, .ref 96, .ref 100, .ref 67, .ref 106, .int 0, .int by_, .int sh, .int be]) (fs' := [.ref 90, .ref 91, .int (nI ls.length), .ref 92, .ref 96, .ref 100, .ref 67, .ref 106, .int 0, .int (nI (hpF ls.length + ls.length)), .int sh, .int be]) rfl (by omega) (F_h2_89) (Nat.le_of_ble_eq_true rfl) (rfl) rfl (fun h15 e_h15 => ?_)
  have F_h15_89 : h15 89 = .inr (5, [.ref 90, .ref 91, .int (nI ls.length), .ref 92, .ref 96, .ref 100, .ref 67, .ref 106, .int 0, .int (nI (hpF ls.length + ls.length)), .int sh, .int be]) := by rw [e_h15]; exact va_up_eq
  have F_h15_90 : h15 90 = .inl (0, 8000, .inl lA) := by rw [e_h15, va_up_neq (by decide)]; exact F_h2_90
  have F_h15_91 : h15 91 = .inl (1, 256, .inl cA) := by rw [e_h15, va_up_neq (by decide)]; exact F_h2_91
  have P_h15_he : CoH h15 92 tC := P_h2_he.zfr (Fr.of e_h15) (fun j h1 h2 => by omega)
  have P_h15_fr : CoT h15 96 L t := P_h2_fr.zfr (Fr.of e_h15) (fun j h1 h2 => by omega)
  have P_h15_told : RowIs h15 106 256 (some y) 0 0 := P_h2_told.zfr (Fr.of e_h15) (by decide) (by decide)
  have FR_h15 : Fr h h15 (fun j => j = 89) := FR_h2.zup e_h15 (by first | exact rfl | exact Or.inl rfl | exact Or.inr rfl | exact ⟨by decide, by decide⟩ | decide | omega)
  clear F_h2_89 F_h2_90 F_h2_91 P_h2_he P_h2_fr P_h2_told FR_h2 e_h15
  have t119 : ∀ (hL : Nat → aE), Fr h hL (fun j => j = 89) → LiS hL ls (lc2 (some y) L ls (lc3 tC ls (lc1 ls))) → WX (lk tX5_choose) (mM (d + 3)) Ψ 119 [(0, .ref 89), (1, .int 1)] [] (n, s, hL) := by
    intro hL FR_hL hL9
    obtain ⟨sh9, be9, F_hL_89, hq9⟩ := id hL9
    refine WX.s1 rfl rfl ?_
    refine WX.get1 (fs := [.ref 90, .ref 91, .int (nI ls.length), .ref 92, .ref 96, .ref 100, .ref 67, .ref 106, .int (nI (lc2 (some y) L ls (lc3 tC ls (lc1 ls))).1), .int (nI (lc2 (some y) L ls (lc3 tC ls (lc1 ls))).2.1), .int sh9, .int be9]) rfl (by omega) (F_hL_89) rfl ?_
    exact WX.ret1 rfl (kk hL FR_hL hL9)
  have t99 : ∀ (hL : Nat → aE), Fr h hL (fun j => j = 89) → LiS hL ls (lc3 tC ls (lc1 ls)) → (lc3 tC ls (lc1 ls)).2.1 < 2 ^ 20 → WX (lk tX5_choose) (mM (d + 3)) Ψ 99 [(0, .ref 89), (1, .int 1)] [] (n, s, hL) := by
    intro hL FR_hL hL9 hb9
    obtain ⟨sh9, be9, F_hL_89, hq9⟩ := id hL9
    have F_hL_90 : hL 90 = .inl (0, 8000, .inl lA) := (FR_hL _ (by decide)).trans ((FR_h15 _ (by decide)).symm.trans F_h15_90)
    have F_hL_91 : hL 91 = .inl (1, 256, .inl cA) := (FR_hL _ (by decide)).trans ((FR_h15 _ (by decide)).symm.trans F_h15_91)
    have fr9 : Fr h15 hL (fun j => j = 89) := fun j hj => (FR_hL j hj).trans (FR_h15 j hj).symm
    have P_hL_he : CoH hL 92 tC := P_h15_he.zfr fr9 (fun j h1 h2 => by omega)
    have P_hL_fr : CoT hL 96 L t := P_h15_fr.zfr fr9 (fun j h1 h2 => by omega)
    have P_hL_told : RowIs hL 106 256 (some y) 0 0 := P_h15_told.zfr fr9 (by decide) (by decide)
    obtain ⟨lB, kB, eB, ⟨F_hL_96, F_hL_97, -, -⟩, hD1, hD2, hD3⟩ := id P_hL_fr
    obtain ⟨gT, hT9, -⟩ := P_hL_told.at_
    have F_hL_106 := hT9.1
    have hef : (lc2 (some y) L ls (lc3 tC ls (lc1 ls))) = lcS (lc3 tC ls (lc1 ls)) 2 (y.length + tob L ls) ls.length := rfl
    refine WX.s1 rfl rfl ?_
    refine WX.if_ rfl (fun c_100 => absurd c_100 (by decide)) (fun c_100 => ?_)
    clear c_100
    refine WX.s1 rfl rfl ?_
    refine WX.s1 rfl rfl ?_
    refine WX.s1 rfl rfl ?_
    refine WX.get1 (fs := [.ref 90, .ref 91, .int (nI ls.length), .ref 92, .ref 96, .ref 100, .ref 67, .ref 106, .int (nI (lc3 tC ls (lc1 ls)).1), .int (nI (lc3 tC ls (lc1 ls)).2.1), .int sh9, .int be9]) rfl (by omega) (F_hL_89) rfl ?_
    refine WX.s1 rfl rfl ?_
    refine WX.get1 (fs := [.ref 90, .ref 91, .int (nI ls.length), .ref 92, .ref 96, .ref 100, .ref 67, .ref 106, .int (nI (lc3 tC ls (lc1 ls)).1), .int (nI (lc3 tC ls (lc1 ls)).2.1), .int sh9, .int be9]) rfl (by omega) (F_hL_89) rfl ?_
    refine WX.get1 (fs := [.ref 107, .int (nI y.length), .int 0, .long 0, .int 0]) rfl (by omega) (F_hL_106) rfl ?_
    refine WX.callC (vs := [.ref 89, .int (nI 2), .ref 96, .int (nI y.length)]) rfl rfl rfl (Nat.le_of_ble_eq_true rfl) (rcv_ok (by omega) F_hL_89) ?_
    refine x_lcons (q := 96) hn (by omega) (by decide) (fun s hs => ⟨hD1 s hs, Nat.le_trans (hD3.2.2.1 s hs) hD3.2.1⟩) hls hy (by omega) (by omega) rfl F_hL_89 F_hL_90 F_hL_96 F_hL_97 (fun hc1 h2 fr2 F2 => ?_) (fun hc1 => ?_)
    · exact t119 h2 (FR_hL.ztr fr2) (by rw [hef]; unfold lcS; rw [if_pos hc1]; exact ⟨_, _, F2, fun _ => ⟨rfl, rfl⟩⟩)
    · exact t119 hL FR_hL (by rw [hef]; unfold lcS; rw [if_neg hc1]; exact hL9)
  have t75 : ∀ (hL : Nat → aE), Fr h hL (fun j => j = 89) → hL 89 = .inr (5, [.ref 90, .ref 91, .int (nI ls.length), .ref 92, .ref 96, .ref 100, .ref 67, .ref 106, .int (nI (lc1 ls).1), .int (nI (lc1 ls).2.1), .int sh, .int be]) → (lc1 ls).2.1 < 2 ^ 19 → (lc1 ls).1 < 2 → WX (lk tX5_choose) (mM (d + 3)) Ψ 75 [(0, .ref 89), (1, .int 1)] [] (n, s, hL) := by
    intro hL FR_hL F_hL_89 hb9 hk9
    have F_hL_90 : hL 90 = .inl (0, 8000, .inl lA) := (FR_hL _ (by decide)).trans ((FR_h15 _ (by decide)).symm.trans F_h15_90)
    have F_hL_91 : hL 91 = .inl (1, 256, .inl cA) := (FR_hL _ (by decide)).trans ((FR_h15 _ (by decide)).symm.trans F_h15_91)
    have fr9 : Fr h15 hL (fun j => j = 89) := fun j hj => (FR_hL j hj).trans (FR_h15 j hj).symm
    have P_hL_he : CoH hL 92 tC := P_h15_he.zfr fr9 (fun j h1 h2 => by omega)
    have hl1 : LiS hL ls (lc1 ls) := ⟨sh, be, F_hL_89, fun z => absurd z (by omega)⟩
    cases tC with
    | none =>
      obtain ⟨tp9, a9, b9, c9, F_hL_92, -⟩ := id P_hL_he
      refine WX.s1 rfl rfl ?_
      refine WX.get1 (fs := [.ref 90, .ref 91, .int (nI ls.length), .ref 92, .ref 96, .ref 100, .ref 67, .ref 106, .int (nI (lc1 ls).1), .int (nI (lc1 ls).2.1), .int sh, .int be]) rfl (by omega) (F_hL_89) rfl ?_
      refine WX.s1 rfl rfl ?_
      refine WX.get1 (fs := [.ref 90, .ref 91, .int (nI ls.length), .ref 92, .ref 96, .ref 100, .ref 67, .ref 106, .int (nI (lc1 ls).1), .int (nI (lc1 ls).2.1), .int sh, .int be]) rfl (by omega) (F_hL_89) rfl ?_
      refine WX.callC (vs := [.ref 92, .ref 91]) rfl rfl rfl (Nat.le_of_ble_eq_true rfl) (rcv_ok (by omega) F_hL_92) ?_
      refine x_cCan0 (by omega) F_hL_92 ?_
      show WX _ _ _ 86 [(0, .ref 89), (1, .int 1)] [.int 0] (n, s, hL)
      refine WX.if_ rfl (fun c_86 => ?_) (fun c_86 => absurd (by decide) c_86)
      clear c_86
      exact t99 hL FR_hL hl1 (by show (lc1 ls).2.1 < _; omega)
    | some tt =>
      obtain ⟨lB, kB, eB, ⟨F_hL_92, F_hL_93, -, -⟩, hD1, hD2, hD3⟩ := id P_hL_he
      have hef : lc3 (some tt) ls (lc1 ls) = if ∀ s, s ∈ ls → tt.1 s ≠ 0 then lcS (lc1 ls) 3 (tob tt.1 ls) ls.length else (lc1 ls) := rfl
      have htb := tob_le (fun s hs => Nat.le_trans (hD3.2.2.1 s hs) hD3.2.1) hls
      refine WX.s1 rfl rfl ?_
      refine WX.get1 (fs := [.ref 90, .ref 91, .int (nI ls.length), .ref 92, .ref 96, .ref 100, .ref 67, .ref 106, .int (nI (lc1 ls).1), .int (nI (lc1 ls).2.1), .int sh, .int be]) rfl (by omega) (F_hL_89) rfl ?_
      refine WX.s1 rfl rfl ?_
      refine WX.get1 (fs := [.ref 90, .ref 91, .int (nI ls.length), .ref 92, .ref 96, .ref 100, .ref 67, .ref 106, .int (nI (lc1 ls).1), .int (nI (lc1 ls).2.1), .int sh, .int be]) rfl (by omega) (F_hL_89) rfl ?_
      refine WX.callC (vs := [.ref 92, .ref 91]) rfl rfl rfl (Nat.le_of_ble_eq_true rfl) (rcv_ok (by omega) F_hL_92) ?_
      refine x_cCan (k := 92) (L := tt.1) (cnt := (cdF ls).1) (by omega) (by omega) (fun s hs => ⟨hD1 s hs, by have q1 := hD3.2.2.1 s hs; have q2 := hD3.2.1; omega⟩) (fun s hs => ⟨hc s hs, by have q1 := cd_all_le (ls := ls) s; omega⟩) F_hL_92 F_hL_93 F_hL_91 (fun hall => ?_) (fun hex => ?_)
      · have hall2 : ∀ s, s ∈ ls → tt.1 s ≠ 0 := fun s hs => hall s (hls.1 s hs) (cd_pos.mpr hs)
        rw [if_pos hall2] at hef
        show WX _ _ _ 86 [(0, .ref 89), (1, .int 1)] [.int 1] (n, s, hL)
        refine WX.if_ rfl (fun c_86 => absurd c_86 (by decide)) (fun c_86 => ?_)
        clear c_86
        refine WX.s1 rfl rfl ?_
        refine WX.s1 rfl rfl ?_
        refine WX.s1 rfl rfl ?_
        refine WX.get1 (fs := [.ref 90, .ref 91, .int (nI ls.length), .ref 92, .ref 96, .ref 100, .ref 67, .ref 106, .int (nI (lc1 ls).1), .int (nI (lc1 ls).2.1), .int sh, .int be]) rfl (by omega) (F_hL_89) rfl ?_
        refine WX.s1 rfl rfl ?_
        refine WX.callC (vs := [.ref 89, .int (nI 3), .ref 92, .int (nI 0)]) rfl rfl rfl (Nat.le_of_ble_eq_true rfl) (rcv_ok (by omega) F_hL_89) ?_
        refine x_lcons (q := 92) hn (by omega) (by decide) (fun s hs => ⟨hD1 s hs, Nat.le_trans (hD3.2.2.1 s hs) hD3.2.1⟩) hls hy (by decide) (by omega) (st_ := tob tt.1 ls) (Nat.zero_add _).symm F_hL_89 F_hL_90 F_hL_92 F_hL_93 (fun hc1 h2 fr2 F2 => ?_) (fun hc1 => ?_)
        · unfold lcS at hef
          rw [if_pos hc1] at hef
          exact t99 h2 (FR_hL.ztr fr2) (by rw [hef]; exact ⟨_, _, F2, fun _ => ⟨rfl, rfl⟩⟩) (by rw [hef]; show chd ls.length + tob tt.1 ls < _; have := hc1.2; omega)
        · unfold lcS at hef
          rw [if_neg hc1] at hef
          exact t99 hL FR_hL (by rw [hef]; exact hl1) (by rw [hef]; omega)
      · have hno : ¬ ∀ s, s ∈ ls → tt.1 s ≠ 0 := fun z => by obtain ⟨s, q1, q2, q3⟩ := hex; exact z s (cd_pos.mp q2) q3
        rw [if_neg hno] at hef
        show WX _ _ _ 86 [(0, .ref 89), (1, .int 1)] [.int 0] (n, s, hL)
        refine WX.if_ rfl (fun c_86 => ?_) (fun c_86 => absurd (by decide) c_86)
        clear c_86
        exact t99 hL FR_hL (by rw [hef]; exact hl1) (by rw [hef]; omega)
  refine WX.s1 rfl rfl ?_
  refine WX.get1 (fs := [.ref 90, .ref 91, .int (nI ls.length), .ref 92, .ref 96, .ref 100, .ref 67, .ref 106, .int 0, .int (nI (hpF ls.length + ls.length)), .int sh, .int be]) rfl (by omega) (F_h15_89) rfl ?_
  refine WX.if_ rfl (fun c_22 => ?_) (fun c_22 => ?_)
  · skip
    have n_22 : ls.length ≤ 0 := (nI_leI (a := ls.length) (b := 0) (by omega) (by omega)).mp c_22
    have e1 : lc1 ls = (0, hpF ls.length + ls.length, 0) := if_neg (fun z => by have := z.2; omega)
    rw [e1] at t75
    exact t75 h15 FR_h15 F_h15_89 (by show hpF ls.length + ls.length < _; omega) (show 0 < 2 by decide)
  · skip
    have n_22 : 0 < ls.length := Nat.lt_of_not_le (fun zz_ => c_22 ((nI_leI (a := ls.length) (b := 0) (by omega) (by omega)).mpr zz_))
    have h0 : ls ≠ [] := fun z => by rw [z] at n_22; exact absurd n_22 (by decide)
    have hp := List.length_pos_iff.mpr h0
    have y0 := hy 0 hp
    have ha := alk_cnt h0
    have hcl : ls.count (ls.getD 0 0) ≤ ls.length := List.count_le_length
    refine WX.s1 rfl rfl ?_
    refine WX.get1 (fs := [.ref 90, .ref 91, .int (nI ls.length), .ref 92, .ref 96, .ref 100, .ref 67, .ref 106, .int 0, .int (nI (hpF ls.length + ls.length)), .int sh, .int be]) rfl (by omega) (F_h15_89) rfl ?_
    refine WX.s1 rfl rfl ?_
    refine WX.get1 (fs := [.ref 90, .ref 91, .int (nI ls.length), .ref 92, .ref 96, .ref 100, .ref 67, .ref 106, .int 0, .int (nI (hpF ls.length + ls.length)), .int sh, .int be]) rfl (by omega) (F_h15_89) rfl ?_
    refine WX.s1 rfl rfl ?_
    refine WX.bald1 rfl (by omega) (F_h15_90) (by unfold vp_in; decide) ?_
    rw [show Int32.toNatClampNeg 0 = 0 from rfl, y0.2]
    refine WX.s1 rfl rfl ?_
    refine WX.s1 (S' := [.int ((sb_b (ls.getD 0 0)) &&& 255), .ref 91]) rfl rfl ?_
    rw [(sb_byte _ y0.1).1]
    refine WX.iald1 rfl (Or.inl (by omega)) (F_h15_91) (vp_in_nI (N := 256) (by omega) (by decide)) ?_
    rw [nI_clamp (by have := y0.1; omega), hc _ y0.1, ← cn_cd]
    refine WX.s1 rfl rfl ?_
    refine WX.get1 (fs := [.ref 90, .ref 91, .int (nI ls.length), .ref 92, .ref 96, .ref 100, .ref 67, .ref 106, .int 0, .int (nI (hpF ls.length + ls.length)), .int sh, .int be]) rfl (by omega) (F_h15_89) rfl ?_
    refine WX.icmp rfl (fun c_44 => ?_) (fun c_44 => ?_)
    · skip
      have n_44 : ¬ (ls.count (ls.getD 0 0)) = ls.length := fun zz_ => c_44 ((nI_eq (a := ls.count (ls.getD 0 0)) (b := ls.length) (by omega) (by omega)).mpr zz_)
      have e1 : lc1 ls = (0, hpF ls.length + ls.length, 0) := if_neg (fun z => n_44 (ha.mp z.1.2))
      rw [e1] at t75
      exact t75 h15 FR_h15 F_h15_89 (by show hpF ls.length + ls.length < _; omega) (show 0 < 2 by decide)
    · skip
      have n_44 : (ls.count (ls.getD 0 0)) = ls.length := (nI_eq (a := ls.count (ls.getD 0 0)) (b := ls.length) (by omega) (by omega)).mp (Classical.not_not.mp c_44)
      refine WX.s1 rfl rfl ?_
      refine WX.callC (vs := [.ref 89]) rfl rfl rfl (Nat.le_of_ble_eq_true rfl) (rcv_ok (by omega) F_h15_89) ?_
      refine x_lpl hn hlen F_h15_89 ?_
      show WX _ _ _ 51 [(0, .ref 89), (1, .int 1)] [.int (nI (hpF ls.length))] (n, s, h15)
      refine WX.s1 rfl rfl ?_
      refine WX.s1 (S' := [.int ((nI (hpF ls.length)) + 1)]) rfl rfl ?_
      rw [show ((nI (hpF ls.length)) + 1) = nI (hpF ls.length + 1) from nI_add (hpF ls.length) 1]
      refine WX.s1 rfl rfl ?_
      refine WX.get1 (fs := [.ref 90, .ref 91, .int (nI ls.length), .ref 92, .ref 96, .ref 100, .ref 67, .ref 106, .int 0, .int (nI (hpF ls.length + ls.length)), .int sh, .int be]) rfl (by omega) (F_h15_89) rfl ?_
      refine WX.icmp rfl (fun c_57 => ?_) (fun c_57 => ?_)
      · skip
        have n_57 : (hpF ls.length + ls.length) ≤ (hpF ls.length + 1) := (nI_leI (a := hpF ls.length + ls.length) (b := hpF ls.length + 1) (by omega) (by omega)).mp c_57
        have e1 : lc1 ls = (0, hpF ls.length + ls.length, 0) := if_neg (fun z => by have := z.2; omega)
        rw [e1] at t75
        exact t75 h15 FR_h15 F_h15_89 (by show hpF ls.length + ls.length < _; omega) (show 0 < 2 by decide)
      · skip
        have n_57 : (hpF ls.length + 1) < (hpF ls.length + ls.length) := Nat.lt_of_not_le (fun zz_ => c_57 ((nI_leI (a := hpF ls.length + ls.length) (b := hpF ls.length + 1) (by omega) (by omega)).mpr zz_))
        refine WX.s1 rfl rfl ?_
        refine WX.s1 rfl rfl ?_
        refine WX.put1 (fs := [.ref 90, .ref 91, .int (nI ls.length), .ref 92, .ref 96, .ref 100, .ref 67, .ref 106, .int 0, .int (nI (hpF ls.length + ls.length)), .int sh, .int be]) (fs' := [.ref 90, .ref 91, .int (nI ls.length), .ref 92, .ref 96, .ref 100, .ref 67, .ref 106, .int 1, .int (nI (hpF ls.length + ls.length)), .int sh, .int be]) rfl (by omega) (F_h15_89) (Nat.le_of_ble_eq_true rfl) (rfl) rfl (fun h62 e_h62 => ?_)
        have F_h62_89 : h62 89 = .inr (5, [.ref 90, .ref 91, .int (nI ls.length), .ref 92, .ref 96, .ref 100, .ref 67, .ref 106, .int 1, .int (nI (hpF ls.length + ls.length)), .int sh, .int be]) := by rw [e_h62]; exact va_up_eq
        have F_h62_90 : h62 90 = .inl (0, 8000, .inl lA) := by rw [e_h62, va_up_neq (by decide)]; exact F_h15_90
        have F_h62_91 : h62 91 = .inl (1, 256, .inl cA) := by rw [e_h62, va_up_neq (by decide)]; exact F_h15_91
        have P_h62_he : CoH h62 92 tC := P_h15_he.zfr (Fr.of e_h62) (fun j h1 h2 => by omega)
        have P_h62_fr : CoT h62 96 L t := P_h15_fr.zfr (Fr.of e_h62) (fun j h1 h2 => by omega)
        have P_h62_told : RowIs h62 106 256 (some y) 0 0 := P_h15_told.zfr (Fr.of e_h62) (by decide) (by decide)
        have FR_h62 : Fr h h62 (fun j => j = 89) := FR_h15.zup e_h62 (by first | exact rfl | exact Or.inl rfl | exact Or.inr rfl | exact ⟨by decide, by decide⟩ | decide | omega)
        clear F_h15_89 F_h15_90 F_h15_91 P_h15_he P_h15_fr P_h15_told FR_h15 e_h62
        refine WX.s1 rfl rfl ?_
        refine WX.s1 rfl rfl ?_
        refine WX.callC (vs := [.ref 89]) rfl rfl rfl (Nat.le_of_ble_eq_true rfl) (rcv_ok (by omega) F_h62_89) ?_
        refine x_lpl hn hlen F_h62_89 ?_
        show WX _ _ _ 70 [(0, .ref 89), (1, .int 1)] [.int (nI (hpF ls.length)), .ref 89] (n, s, h62)
        refine WX.s1 rfl rfl ?_
        refine WX.s1 (S' := [.int ((nI (hpF ls.length)) + 1), .ref 89]) rfl rfl ?_
        rw [show ((nI (hpF ls.length)) + 1) = nI (hpF ls.length + 1) from nI_add (hpF ls.length) 1]
        refine WX.put1 (fs := [.ref 90, .ref 91, .int (nI ls.length), .ref 92, .ref 96, .ref 100, .ref 67, .ref 106, .int 1, .int (nI (hpF ls.length + ls.length)), .int sh, .int be]) (fs' := [.ref 90, .ref 91, .int (nI ls.length), .ref 92, .ref 96, .ref 100, .ref 67, .ref 106, .int 1, .int (nI (hpF ls.length + 1)), .int sh, .int be]) rfl (by omega) (F_h62_89) (Nat.le_of_ble_eq_true rfl) (rfl) rfl (fun h72 e_h72 => ?_)
        have F_h72_89 : h72 89 = .inr (5, [.ref 90, .ref 91, .int (nI ls.length), .ref 92, .ref 96, .ref 100, .ref 67, .ref 106, .int 1, .int (nI (hpF ls.length + 1)), .int sh, .int be]) := by rw [e_h72]; exact va_up_eq
        have F_h72_90 : h72 90 = .inl (0, 8000, .inl lA) := by rw [e_h72, va_up_neq (by decide)]; exact F_h62_90
        have F_h72_91 : h72 91 = .inl (1, 256, .inl cA) := by rw [e_h72, va_up_neq (by decide)]; exact F_h62_91
        have P_h72_he : CoH h72 92 tC := P_h62_he.zfr (Fr.of e_h72) (fun j h1 h2 => by omega)
        have P_h72_fr : CoT h72 96 L t := P_h62_fr.zfr (Fr.of e_h72) (fun j h1 h2 => by omega)
        have P_h72_told : RowIs h72 106 256 (some y) 0 0 := P_h62_told.zfr (Fr.of e_h72) (by decide) (by decide)
        have FR_h72 : Fr h h72 (fun j => j = 89) := FR_h62.zup e_h72 (by first | exact rfl | exact Or.inl rfl | exact Or.inr rfl | exact ⟨by decide, by decide⟩ | decide | omega)
        clear F_h62_89 F_h62_90 F_h62_91 P_h62_he P_h62_fr P_h62_told FR_h62 e_h72
        have e1 : lc1 ls = (1, hpF ls.length + 1, 0) := if_pos ⟨⟨h0, ha.mpr n_44⟩, n_57⟩
        rw [e1] at t75
        exact t75 h72 FR_h72 F_h72_89 (by show hpF ls.length + 1 < _; omega) (show 1 < 2 by decide)
