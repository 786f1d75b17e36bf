/-! the reference learns -/
def WaT (A : Nat → Nat → Int32) (tb o : Nat) (u : Nat → Nat) : Prop := A 14 tb = nI o ∧ ∀ s, s < 64 → A 13 (64 * tb + s) = qI (u s)
theorem WaT.fa {A B : Nat → Nat → Int32} {tb o : Nat} {u : Nat → Nat} (h : WaT A tb o u) (e1 : B 14 = A 14) (e2 : B 13 = A 13) : WaT B tb o u := ⟨by rw [e1]; exact h.1, fun s hs => by rw [e2]; exact h.2 s hs⟩
theorem fmd_b {l : List Nat} (hl : ∀ i, (l).getD i 0 < 256) : fmd l ↔ (4 ≤ (l).length ∧ (l).getD 0 0 = 55 ∧ (l).getD 1 0 = 164 ∧ (l).getD 2 0 = 48 ∧ (l).getD 3 0 = 236) := by
  have h0 := hl 0
  have h1 := hl 1
  have h2 := hl 2
  have h3 := hl 3
  have e : wdN l 0 4 = (l).getD 0 0 + (l).getD 1 0 * 256 + (l).getD 2 0 * 65536 + (l).getD 3 0 * 16777216 := by
    show 0 + (l).getD (0 + 0) 0 * 256 ^ 0 + (l).getD (0 + 1) 0 * 256 ^ 1 + (l).getD (0 + 2) 0 * 256 ^ 2 + (l).getD (0 + 3) 0 * 256 ^ 3 = _
    simp only [Nat.zero_add]
    omega
  unfold fmd
  rw [e]
  constructor
  · intro h
    have := h.2
    exact ⟨h.1, by omega, by omega, by omega, by omega⟩
  · intro h
    obtain ⟨a, b, c, d, f⟩ := h
    exact ⟨a, by omega⟩
theorem RfX.lrn {I J : Nat → Int32} {A B : Nat → Nat → Int32} {id way least id2 : Nat} {l lo ld l2 ld2 : List Nat} {T T2 : PkS} {ab : Nat → Nat} (h : RfX I A id way least l lo ld T ab) (e3 : J 3 = I 3) (e4 : J 4 = I 4) (e5 : J 5 = I 5) (e38 : J 38 = I 38) (b2 : B 2 = A 2) (b24 : B 24 = A 24) (b43 : B 43 = A 43) (hI : InIs J B l2) (hd : J 7 = nI (ld2).length ∧ ∀ i, i < (ld2).length → B 3 i = nI ((ld2).getD i 0)) (hid : J 8 = nI id2) (hD : DicM J B T2) : RfX J B id2 way least l2 lo ld2 T2 ab := by
  obtain ⟨-, a2, a3, a4, -, -, -, ⟨c, w, a8⟩, a9⟩ := h
  exact ⟨hI, ⟨(e3).trans a2.1, by rw [b2]; exact a2.2⟩, (e4).trans a3, (e5).trans a4, hd, hid, hD, ⟨c, w, (a8).fa e38 b24⟩, by rw [b43]; exact a9⟩
set_option maxRecDepth 20000 in
theorem m_lrA0 {d n s : Nat} {h : Nat → aE} {m : Nat} {I : Nat → Int32} {AR : Nat → Nat → Int32} {LN : Nat → Int64} {id way least : Nat} {l lo ld : List Nat} {T : PkS} {ab : Nat → Nat} {a : Nat} (hm : m + 43 < n) (M_h : MAt h m I AR LN) (hF : InIs I AR l) (hX : ∃ I0 A0, RfX I0 A0 id way least l lo ld T ab ∧ I 3 = I0 3 ∧ I 4 = I0 4 ∧ I 5 = I0 5 ∧ I 38 = I0 38 ∧ AR 2 = A0 2 ∧ AR 24 = A0 24 ∧ AR 43 = A0 43) (hB : RfB l lo ld) (ha : a ≤ (l).length)  {Ψ : Option Value → aH → Prop} (kk : ∀ h' I' A', Fr h h' (inM m) → MAt h' m I' A' LN → RfX I' A' 0 way least [] lo (sliceL l a (l).length) stN ab → Ψ (some (.int (nI ((l).length - a)))) (n, s, h')) : WX (lk tX12_learn) (mM (d + 1)) Ψ 433 [(0, .ref m), (1, .int 0), (2, .int (nI a))] [] (n, s, h) := by
  have FR_h : Fr h h (inM m) := Fr.rf
  have FI_I : Fi I I (fun f => (f = 1 ∨ (7 ≤ f ∧ f ≤ 9) ∨ 56 ≤ f) ∧ f ≤ 61) := Fi.rf
  have FA_AR : FaS AR AR (fun b => (3 ≤ b ∧ b ≤ 7) ∨ (13 ≤ b ∧ b ≤ 15) ∨ (26 ≤ b ∧ b ≤ 39)) := FaS.rf
  have K_I_1 : I 1 = nI (l).length := hF.1
  obtain ⟨hle, hld, hlo, hlb, hlb2⟩ := idP hB
  refine WX.s1 rfl rfl ?_
  refine WX.s1 rfl rfl ?_
  refine WX.mput rfl hm M_h (rfl) (by decide) (fun _ => rfl) (fun h435n1 I435n1 e_I435n1 M_h435n1 frh435n1 => ?_)
  have FR_h435n1 := (FR_h).ztr frh435n1
  have FI_I435n1 : Fi I I435n1 (fun f => (f = 1 ∨ (7 ≤ f ∧ f ≤ 9) ∨ 56 ≤ f) ∧ f ≤ 61) := (FI_I).zup e_I435n1 (by first | exact rfl | decide | omega)
  have K_I435n1_1 : I435n1 1 = (nI (l).length) := by rw [e_I435n1]; exact (pk_un (by decide)).trans K_I_1
  have K_I435n1_9 : I435n1 9 = 0 := by rw [e_I435n1]; exact pk_us
  clear M_h FR_h FI_I e_I435n1 frh435n1 K_I_1
  refine WX.s1 rfl rfl ?_
  refine WX.s1 rfl rfl ?_
  refine WX.if_ rfl (fun c_440 => ?_) (fun c_440 => absurd (by decide) c_440)
  clear c_440
  refine WX.s1 rfl rfl ?_
  refine WX.mput rfl hm M_h435n1 (rfl) (by decide) (fun _ => rfl) (fun h454n2 I454n2 e_I454n2 M_h454n2 frh454n2 => ?_)
  have FR_h454n2 := (FR_h435n1).ztr frh454n2
  have FI_I454n2 : Fi I I454n2 (fun f => (f = 1 ∨ (7 ≤ f ∧ f ≤ 9) ∨ 56 ≤ f) ∧ f ≤ 61) := (FI_I435n1).zup e_I454n2 (by first | exact rfl | decide | omega)
  have K_I454n2_1 : I454n2 1 = (nI (l).length) := by rw [e_I454n2]; exact (pk_un (by decide)).trans K_I435n1_1
  have K_I454n2_9 : I454n2 9 = 0 := by rw [e_I454n2]; exact (pk_un (by decide)).trans K_I435n1_9
  have K_I454n2_8 : I454n2 8 = 0 := by rw [e_I454n2]; exact pk_us
  clear M_h435n1 FR_h435n1 FI_I435n1 e_I454n2 frh454n2 K_I435n1_1 K_I435n1_9
  refine WX.s1 rfl rfl ?_
  refine WX.s1 rfl rfl ?_
  refine WX.mgetK (x := (nI (l).length)) rfl hm M_h454n2 rfl K_I454n2_1 ?_
  refine WX.s1 rfl rfl ?_
  refine WX.s1 (S' := [.int ((nI (l).length) - (nI a)), .ref m]) rfl rfl ?_
  rw [nI_subN ha]
  refine WX.mput rfl hm M_h454n2 (rfl) (by decide) (fun _ => rfl) (fun h464n3 I464n3 e_I464n3 M_h464n3 frh464n3 => ?_)
  have FR_h464n3 := (FR_h454n2).ztr frh464n3
  have FI_I464n3 : Fi I I464n3 (fun f => (f = 1 ∨ (7 ≤ f ∧ f ≤ 9) ∨ 56 ≤ f) ∧ f ≤ 61) := (FI_I454n2).zup e_I464n3 (by first | exact rfl | decide | omega)
  have K_I464n3_1 : I464n3 1 = (nI (l).length) := by rw [e_I464n3]; exact (pk_un (by decide)).trans K_I454n2_1
  have K_I464n3_9 : I464n3 9 = 0 := by rw [e_I464n3]; exact (pk_un (by decide)).trans K_I454n2_9
  have K_I464n3_8 : I464n3 8 = 0 := by rw [e_I464n3]; exact (pk_un (by decide)).trans K_I454n2_8
  have K_I464n3_7 : I464n3 7 = (nI ((l).length - a)) := by rw [e_I464n3]; exact pk_us
  clear M_h454n2 FR_h454n2 FI_I454n2 e_I464n3 frh464n3 K_I454n2_1 K_I454n2_9 K_I454n2_8
  refine WX.s1 rfl rfl ?_
  refine WX.s1 (L' := [(0, .ref m), (1, .int 0), (2, .int (nI a)), (3, .int 0)]) rfl rfl ?_
  refine WX.keep (y := 220) [0, 2, 3] (show ([0, 1, 2, 3] : List Nat).Nodup by decide) rfl ?_
  have lp : ∀ (t i : Nat) (hL : Nat → aE) (AL : Nat → Nat → Int32), i + t = (l).length - a → Fr h hL (inM m) → MAt hL m I464n3 AL LN → FaS AR AL (fun b => b = 3) → (∀ j, j < i → AL 3 j = nI ((l).getD (a + j) 0)) → WX (lk tX12_learn) (mM (d + 1)) Ψ 469 [(0, .ref m), (2, .int (nI a)), (3, .int (nI i))] [] (n, s, hL) := by
    clear M_h464n3 FR_h464n3
    intro t
    induction t with
    | zero =>
      intro i hL AL ht FR_hL M_hL faL hI
      refine WX.s1 rfl rfl ?_
      refine WX.s1 rfl rfl ?_
      refine WX.mgetK (x := (nI ((l).length - a))) rfl hm M_hL rfl K_I464n3_7 ?_
      refine WX.icmp rfl (fun c_474 => ?_) (fun c_474 => absurd ((nI_leI (a := (l).length - a) (b := i) (by omega) (by omega)).mpr (by omega)) c_474)
      clear c_474
      refine WX.s1 rfl rfl ?_
      refine WX.s1 rfl rfl ?_
      refine WX.mput rfl hm M_hL (rfl) (by decide) (fun _ => rfl) (fun h499n4 I499n4 e_I499n4 M_h499n4 frh499n4 => ?_)
      have FR_h499n4 := (FR_hL).ztr frh499n4
      have FI_I499n4 : Fi I I499n4 (fun f => (f = 1 ∨ (7 ≤ f ∧ f ≤ 9) ∨ 56 ≤ f) ∧ f ≤ 61) := (FI_I464n3).zup e_I499n4 (by first | exact rfl | decide | omega)
      have K_I499n4_9 : I499n4 9 = 0 := by rw [e_I499n4]; exact (pk_un (by decide)).trans K_I464n3_9
      have K_I499n4_8 : I499n4 8 = 0 := by rw [e_I499n4]; exact (pk_un (by decide)).trans K_I464n3_8
      have K_I499n4_7 : I499n4 7 = (nI ((l).length - a)) := by rw [e_I499n4]; exact (pk_un (by decide)).trans K_I464n3_7
      have K_I499n4_1 : I499n4 1 = 0 := by rw [e_I499n4]; exact pk_us
      clear M_hL FR_hL FI_I464n3 e_I499n4 frh499n4 K_I464n3_1 K_I464n3_9 K_I464n3_8 K_I464n3_7
      refine WX.s1 rfl rfl ?_
      refine WX.mgetK (x := (nI ((l).length - a))) rfl hm M_h499n4 rfl K_I499n4_7 ?_
      obtain ⟨I0, A0, hX, x3, x4, x5, x38, y2, y24, y43⟩ := hX
      have hsl : (sliceL l a (l).length).length = (l).length - a := sliceL_len _ _ _
      have f_ := FI_I499n4
      exact WX.ret1 rfl (kk h499n4 I499n4 AL FR_h499n4 M_h499n4 ((hX).lrn ((f_ 3 (by omega)).trans x3) ((f_ 4 (by omega)).trans x4) ((f_ 5 (by omega)).trans x5) ((f_ 38 (by omega)).trans x38) ((faL 2 (by decide)).trans y2) ((faL 24 (by decide)).trans y24) ((faL 43 (by decide)).trans y43) ⟨K_I499n4_1, fun i hi => absurd hi (Nat.not_lt_zero i)⟩ ⟨by rw [hsl]; exact K_I499n4_7, fun i hi => by rw [sliceL_get (by omega)]; exact hI i (by omega)⟩ K_I499n4_8 (Or.inl ⟨K_I499n4_9, rfl⟩)))
    | succ t ih =>
      intro i hL AL ht FR_hL M_hL faL hI
      refine WX.s1 rfl rfl ?_
      refine WX.s1 rfl rfl ?_
      refine WX.mgetK (x := (nI ((l).length - a))) rfl hm M_hL rfl K_I464n3_7 ?_
      refine WX.icmp rfl (fun c_474 => absurd c_474 (fun zz_ => absurd ((nI_leI (a := (l).length - a) (b := i) (by omega) (by omega)).mp zz_) (Nat.not_le.mpr (by omega)))) (fun c_474 => ?_)
      clear c_474
      refine WX.s1 rfl rfl ?_
      refine WX.mget rfl hm M_hL rfl ?_
      refine WX.s1 rfl rfl ?_
      refine WX.s1 rfl rfl ?_
      refine WX.mget rfl hm M_hL rfl ?_
      refine WX.s1 rfl rfl ?_
      refine WX.s1 rfl rfl ?_
      refine WX.s1 (S' := [.int ((nI a) + (nI i)), .ref (m + 1), .int (nI i), .ref (m + 3)]) rfl rfl ?_
      rw [show ((nI a) + (nI i)) = nI (a + i) from nI_add a i]
      refine WX.mald (c := 1) rfl hm M_hL (by decide) (by decide) (by decide) (by decide) (vp_in_nI (N := 8000) (by omega) (by decide)) ?_
      rw [nI_clamp (by omega), faL 1 (by decide), hF.2 (a + i) (by omega)]
      refine WX.mast (c := 3) rfl hm M_hL (by decide) (by decide) (by decide) (by decide) (vp_in_nI (N := 8000) (by omega) (by decide)) (fun h490n5 A490n5 e_A490n5 M_h490n5 frh490n5 => ?_)
      try dsimp only at e_A490n5
      have FR_h490n5 := (FR_hL).ztr frh490n5
      clear M_hL FR_hL frh490n5
      refine WX.s1 (L' := [(0, .ref m), (2, .int (nI a)), (3, .int ((nI i) + 1))]) rfl rfl ?_
      rw [show ((nI i) + 1) = nI (i + 1) from nI_add i 1]
      refine WX.s1 rfl rfl ?_
      rw [nI_clamp (by omega)] at e_A490n5
      refine ih (i + 1) h490n5 A490n5 (by omega) FR_h490n5 M_h490n5 ((faL).ast e_A490n5 rfl) (fun j hj => ?_)
      by_cases z : j = i
      · rw [z, e_A490n5, upA_same, pk_us]
      · rw [e_A490n5, upA_same, pk_un z]; exact hI j (by omega)
  exact lp ((l).length - a) 0 h464n3 AR (by omega) FR_h464n3 M_h464n3 FaS.rf (fun j hj => absurd hj (Nat.not_lt_zero j))
set_option maxRecDepth 20000 in
theorem m_lrA1 {d n s : Nat} {h : Nat → aE} {m : Nat} {I : Nat → Int32} {AR : Nat → Nat → Int32} {LN : Nat → Int64} {id way least : Nat} {l lo ld : List Nat} {T : PkS} {ab : Nat → Nat} {a : Nat} {L : Nat → Nat} {t : Nat} {t1 t2 t3 : Tb} {lt : Sq} (hm : m + 43 < n) (M_h : MAt h m I AR LN) (hF : InIs I AR l) (hX : ∃ I0 A0, RfX I0 A0 id way least l lo ld T ab ∧ I 3 = I0 3 ∧ I 4 = I0 4 ∧ I 5 = I0 5 ∧ I 38 = I0 38 ∧ AR 2 = A0 2 ∧ AR 24 = A0 24 ∧ AR 43 = A0 43) (hB : RfB l lo ld) (ha : a ≤ (l).length) (h8 : 8 ≤ (l).length) (hDi : DiF AR L t1 t2 t3 lt) (hLt : ∃ s, s < 256 ∧ L s = t)  {Ψ : Option Value → aH → Prop} (kk : ∀ h' I' A', Fr h h' (inM m) → MAt h' m I' A' LN → RfX I' A' (wdN l 4 4) way least [] lo (sliceL l a (l).length) (some (L, t), some t1, some t2, some t3, lt, fun _ => 0) ab → Ψ (some (.int (nI ((l).length - a)))) (n, s, h')) : WX (lk tX12_learn) (mM (d + 1)) Ψ 433 [(0, .ref m), (1, .int 1), (2, .int (nI a))] [] (n, s, h) := by
  have FR_h : Fr h h (inM m) := Fr.rf
  have FI_I : Fi I I (fun f => (f = 1 ∨ (7 ≤ f ∧ f ≤ 9) ∨ 56 ≤ f) ∧ f ≤ 61) := Fi.rf
  have FA_AR : FaS AR AR (fun b => (3 ≤ b ∧ b ≤ 7) ∨ (13 ≤ b ∧ b ≤ 15) ∨ (26 ≤ b ∧ b ≤ 39)) := FaS.rf
  have K_I_1 : I 1 = nI (l).length := hF.1
  obtain ⟨hle, hld, hlo, hlb, hlb2⟩ := idP hB
  refine WX.s1 rfl rfl ?_
  refine WX.s1 rfl rfl ?_
  refine WX.mput rfl hm M_h (rfl) (by decide) (fun _ => rfl) (fun h435n1 I435n1 e_I435n1 M_h435n1 frh435n1 => ?_)
  have FR_h435n1 := (FR_h).ztr frh435n1
  have FI_I435n1 : Fi I I435n1 (fun f => (f = 1 ∨ (7 ≤ f ∧ f ≤ 9) ∨ 56 ≤ f) ∧ f ≤ 61) := (FI_I).zup e_I435n1 (by first | exact rfl | decide | omega)
  have K_I435n1_1 : I435n1 1 = (nI (l).length) := by rw [e_I435n1]; exact (pk_un (by decide)).trans K_I_1
  have K_I435n1_9 : I435n1 9 = 1 := by rw [e_I435n1]; exact pk_us
  clear M_h FR_h FI_I e_I435n1 frh435n1 K_I_1
  refine WX.s1 rfl rfl ?_
  refine WX.s1 rfl rfl ?_
  refine WX.if_ rfl (fun c_440 => absurd c_440 (by decide)) (fun c_440 => ?_)
  clear c_440
  refine WX.s1 rfl rfl ?_
  refine WX.s1 rfl rfl ?_
  refine WX.s1 rfl rfl ?_
  refine WX.callC (vs := [.ref m, .int (nI 4), .int (nI 4)]) rfl rfl rfl (Nat.le_of_ble_eq_true rfl) ((M_h435n1).rcv hm) ?_
  refine m_word (d := d) hm M_h435n1 ⟨K_I435n1_1, hF.2⟩ hlb hle (by omega) (by decide) ?_
  show WX _ _ _ 449 [(0, .ref m), (1, .int 1), (2, .int (nI a))] [.long (wdL l 4 4), .ref m] (n, s, h435n1)
  refine WX.s1 (S' := [.int ((wdL l 4 4).toInt32), .ref m]) rfl rfl ?_
  rw [show (wdL l 4 4).toInt32 = nI (wdN l 4 4) from lN_i _]
  refine WX.s1 rfl rfl ?_
  refine WX.mput rfl hm M_h435n1 (rfl) (by decide) (fun _ => rfl) (fun h454n2 I454n2 e_I454n2 M_h454n2 frh454n2 => ?_)
  have FR_h454n2 := (FR_h435n1).ztr frh454n2
  have FI_I454n2 : Fi I I454n2 (fun f => (f = 1 ∨ (7 ≤ f ∧ f ≤ 9) ∨ 56 ≤ f) ∧ f ≤ 61) := (FI_I435n1).zup e_I454n2 (by first | exact rfl | decide | omega)
  have K_I454n2_1 : I454n2 1 = (nI (l).length) := by rw [e_I454n2]; exact (pk_un (by decide)).trans K_I435n1_1
  have K_I454n2_9 : I454n2 9 = 1 := by rw [e_I454n2]; exact (pk_un (by decide)).trans K_I435n1_9
  have K_I454n2_8 : I454n2 8 = (nI (wdN l 4 4)) := by rw [e_I454n2]; exact pk_us
  clear M_h435n1 FR_h435n1 FI_I435n1 e_I454n2 frh454n2 K_I435n1_1 K_I435n1_9
  refine WX.s1 rfl rfl ?_
  refine WX.s1 rfl rfl ?_
  refine WX.mgetK (x := (nI (l).length)) rfl hm M_h454n2 rfl K_I454n2_1 ?_
  refine WX.s1 rfl rfl ?_
  refine WX.s1 (S' := [.int ((nI (l).length) - (nI a)), .ref m]) rfl rfl ?_
  rw [nI_subN ha]
  refine WX.mput rfl hm M_h454n2 (rfl) (by decide) (fun _ => rfl) (fun h464n3 I464n3 e_I464n3 M_h464n3 frh464n3 => ?_)
  have FR_h464n3 := (FR_h454n2).ztr frh464n3
  have FI_I464n3 : Fi I I464n3 (fun f => (f = 1 ∨ (7 ≤ f ∧ f ≤ 9) ∨ 56 ≤ f) ∧ f ≤ 61) := (FI_I454n2).zup e_I464n3 (by first | exact rfl | decide | omega)
  have K_I464n3_1 : I464n3 1 = (nI (l).length) := by rw [e_I464n3]; exact (pk_un (by decide)).trans K_I454n2_1
  have K_I464n3_9 : I464n3 9 = 1 := by rw [e_I464n3]; exact (pk_un (by decide)).trans K_I454n2_9
  have K_I464n3_8 : I464n3 8 = (nI (wdN l 4 4)) := by rw [e_I464n3]; exact (pk_un (by decide)).trans K_I454n2_8
  have K_I464n3_7 : I464n3 7 = (nI ((l).length - a)) := by rw [e_I464n3]; exact pk_us
  clear M_h454n2 FR_h454n2 FI_I454n2 e_I464n3 frh464n3 K_I454n2_1 K_I454n2_9 K_I454n2_8
  refine WX.s1 rfl rfl ?_
  refine WX.s1 (L' := [(0, .ref m), (1, .int 1), (2, .int (nI a)), (3, .int 0)]) rfl rfl ?_
  refine WX.keep (y := 220) [0, 2, 3] (show ([0, 1, 2, 3] : List Nat).Nodup by decide) rfl ?_
  have lp : ∀ (t i : Nat) (hL : Nat → aE) (AL : Nat → Nat → Int32), i + t = (l).length - a → Fr h hL (inM m) → MAt hL m I464n3 AL LN → FaS AR AL (fun b => b = 3) → (∀ j, j < i → AL 3 j = nI ((l).getD (a + j) 0)) → WX (lk tX12_learn) (mM (d + 1)) Ψ 469 [(0, .ref m), (2, .int (nI a)), (3, .int (nI i))] [] (n, s, hL) := by
    clear M_h464n3 FR_h464n3
    intro t
    induction t with
    | zero =>
      intro i hL AL ht FR_hL M_hL faL hI
      refine WX.s1 rfl rfl ?_
      refine WX.s1 rfl rfl ?_
      refine WX.mgetK (x := (nI ((l).length - a))) rfl hm M_hL rfl K_I464n3_7 ?_
      refine WX.icmp rfl (fun c_474 => ?_) (fun c_474 => absurd ((nI_leI (a := (l).length - a) (b := i) (by omega) (by omega)).mpr (by omega)) c_474)
      clear c_474
      refine WX.s1 rfl rfl ?_
      refine WX.s1 rfl rfl ?_
      refine WX.mput rfl hm M_hL (rfl) (by decide) (fun _ => rfl) (fun h499n4 I499n4 e_I499n4 M_h499n4 frh499n4 => ?_)
      have FR_h499n4 := (FR_hL).ztr frh499n4
      have FI_I499n4 : Fi I I499n4 (fun f => (f = 1 ∨ (7 ≤ f ∧ f ≤ 9) ∨ 56 ≤ f) ∧ f ≤ 61) := (FI_I464n3).zup e_I499n4 (by first | exact rfl | decide | omega)
      have K_I499n4_9 : I499n4 9 = 1 := by rw [e_I499n4]; exact (pk_un (by decide)).trans K_I464n3_9
      have K_I499n4_8 : I499n4 8 = (nI (wdN l 4 4)) := by rw [e_I499n4]; exact (pk_un (by decide)).trans K_I464n3_8
      have K_I499n4_7 : I499n4 7 = (nI ((l).length - a)) := by rw [e_I499n4]; exact (pk_un (by decide)).trans K_I464n3_7
      have K_I499n4_1 : I499n4 1 = 0 := by rw [e_I499n4]; exact pk_us
      clear M_hL FR_hL FI_I464n3 e_I499n4 frh499n4 K_I464n3_1 K_I464n3_9 K_I464n3_8 K_I464n3_7
      refine WX.s1 rfl rfl ?_
      refine WX.mgetK (x := (nI ((l).length - a))) rfl hm M_h499n4 rfl K_I499n4_7 ?_
      obtain ⟨I0, A0, hX, x3, x4, x5, x38, y2, y24, y43⟩ := hX
      have hsl : (sliceL l a (l).length).length = (l).length - a := sliceL_len _ _ _
      have f_ := FI_I499n4
      exact WX.ret1 rfl (kk h499n4 I499n4 AL FR_h499n4 M_h499n4 ((hX).lrn ((f_ 3 (by omega)).trans x3) ((f_ 4 (by omega)).trans x4) ((f_ 5 (by omega)).trans x5) ((f_ 38 (by omega)).trans x38) ((faL 2 (by decide)).trans y2) ((faL 24 (by decide)).trans y24) ((faL 43 (by decide)).trans y43) ⟨K_I499n4_1, fun i hi => absurd hi (Nat.not_lt_zero i)⟩ ⟨by rw [hsl]; exact K_I499n4_7, fun i hi => by rw [sliceL_get (by omega)]; exact hI i (by omega)⟩ K_I499n4_8 (Or.inr ⟨K_I499n4_9, L, t, t1, t2, t3, lt, rfl, by unfold DiF; rw [faL 4 (by decide), faL 5 (by decide), faL 6 (by decide), faL 7 (by decide)]; exact hDi, hLt⟩)))
    | succ t ih =>
      intro i hL AL ht FR_hL M_hL faL hI
      refine WX.s1 rfl rfl ?_
      refine WX.s1 rfl rfl ?_
      refine WX.mgetK (x := (nI ((l).length - a))) rfl hm M_hL rfl K_I464n3_7 ?_
      refine WX.icmp rfl (fun c_474 => absurd c_474 (fun zz_ => absurd ((nI_leI (a := (l).length - a) (b := i) (by omega) (by omega)).mp zz_) (Nat.not_le.mpr (by omega)))) (fun c_474 => ?_)
      clear c_474
      refine WX.s1 rfl rfl ?_
      refine WX.mget rfl hm M_hL rfl ?_
      refine WX.s1 rfl rfl ?_
      refine WX.s1 rfl rfl ?_
      refine WX.mget rfl hm M_hL rfl ?_
      refine WX.s1 rfl rfl ?_
      refine WX.s1 rfl rfl ?_
      refine WX.s1 (S' := [.int ((nI a) + (nI i)), .ref (m + 1), .int (nI i), .ref (m + 3)]) rfl rfl ?_
      rw [show ((nI a) + (nI i)) = nI (a + i) from nI_add a i]
      refine WX.mald (c := 1) rfl hm M_hL (by decide) (by decide) (by decide) (by decide) (vp_in_nI (N := 8000) (by omega) (by decide)) ?_
      rw [nI_clamp (by omega), faL 1 (by decide), hF.2 (a + i) (by omega)]
      refine WX.mast (c := 3) rfl hm M_hL (by decide) (by decide) (by decide) (by decide) (vp_in_nI (N := 8000) (by omega) (by decide)) (fun h490n5 A490n5 e_A490n5 M_h490n5 frh490n5 => ?_)
      try dsimp only at e_A490n5
      have FR_h490n5 := (FR_hL).ztr frh490n5
      clear M_hL FR_hL frh490n5
      refine WX.s1 (L' := [(0, .ref m), (2, .int (nI a)), (3, .int ((nI i) + 1))]) rfl rfl ?_
      rw [show ((nI i) + 1) = nI (i + 1) from nI_add i 1]
      refine WX.s1 rfl rfl ?_
      rw [nI_clamp (by omega)] at e_A490n5
      refine ih (i + 1) h490n5 A490n5 (by omega) FR_h490n5 M_h490n5 ((faL).ast e_A490n5 rfl) (fun j hj => ?_)
      by_cases z : j = i
      · rw [z, e_A490n5, upA_same, pk_us]
      · rw [e_A490n5, upA_same, pk_un z]; exact hI j (by omega)
  exact lp ((l).length - a) 0 h464n3 AR (by omega) FR_h464n3 M_h464n3 FaS.rf (fun j hj => absurd hj (Nat.not_lt_zero j))
set_option maxRecDepth 20000 in
theorem m_lrB {d n s : Nat} {h : Nat → aE} {m : Nat} {I : Nat → Int32} {AR : Nat → Nat → Int32} {LN : Nat → Int64} {id way least : Nat} {l lo ld : List Nat} {T : PkS} {ab : Nat → Nat} {a t o1 o2 o3 : Nat} {L u1 u2 u3 : Nat → Nat} (hm : m + 43 < n) (M_h : MAt h m I AR LN) (hF : InIs I AR l) (hX : ∃ I0 A0, RfX I0 A0 id way least l lo ld T ab ∧ I 3 = I0 3 ∧ I 4 = I0 4 ∧ I 5 = I0 5 ∧ I 38 = I0 38 ∧ AR 2 = A0 2 ∧ AR 24 = A0 24 ∧ AR 43 = A0 43) (hB : RfB l lo ld) (ha : a + 12 ≤ (l).length) (h8 : 8 ≤ (l).length) (hL37 : ∀ s, s < 256 → AR 37 s = nI (L s)) (w0 : WaT AR 0 o1 u1) (w1 : WaT AR 1 o2 u2) (w2 : WaT AR 2 o3 u3) (hLt : ∃ s, s < 256 ∧ L s = t)  {Ψ : Option Value → aH → Prop} (k0 : (¬ ∀ i, i < 3 → dOk l a i) → ∀ h' A', Fr h h' (inM m) → MAt h' m I A' LN → FaS AR A' (fun b => b = 15) → Ψ (some (.int (-4))) (n, s, h')) (k1 : (∀ i, i < 3 → dOk l a i) → ∀ h' I' A', Fr h h' (inM m) → MAt h' m I' A' LN → RfX I' A' (wdN l 4 4) way least [] lo (sliceL l (a + 12) (l).length) (some (L, t), some (o1, u1), some (o2, u2), some (o3, u3), (dIs l a 0, dIs l a 1, dIs l a 2), fun _ => 0) ab → Ψ (some (.int (nI ((l).length - (a + 12))))) (n, s, h')) : WX (lk tX12_learn) (mM (d + 1)) Ψ 264 [(0, .ref m), (1, .int 1), (2, .int (nI (a + 12)))] [] (n, s, h) := by
  have FR_h : Fr h h (inM m) := Fr.rf
  have FI_I : Fi I I (fun f => (f = 1 ∨ (7 ≤ f ∧ f ≤ 9) ∨ 56 ≤ f) ∧ f ≤ 61) := Fi.rf
  have FA_AR : FaS AR AR (fun b => (4 ≤ b ∧ b ≤ 7) ∨ b = 15) := FaS.rf
  have K_I_1 : I 1 = nI (l).length := hF.1
  obtain ⟨hle, hld, hlo, hlb, hlb2⟩ := idP hB
  refine WX.s1 rfl rfl ?_
  refine WX.s1 (L' := [(0, .ref m), (1, .int 1), (2, .int (nI (a + 12))), (4, .int 0)]) rfl rfl ?_
  have lp : ∀ (t i : Nat) (hL : Nat → aE) (AL : Nat → Nat → Int32), i + t = 3 → Fr h hL (inM m) → MAt hL m I AL LN → FaS AR AL (fun b => b = 15) → (∀ j, j < i → dOk l a j ∧ AL 15 j = nI (dIs l a j)) → WX (lk tX12_learn) (mM (d + 1)) Ψ 267 [(0, .ref m), (1, .int 1), (2, .int (nI (a + 12))), (4, .int (nI i))] [] (n, s, hL) := by
    clear M_h FR_h
    intro t9
    induction t9 with
    | zero =>
      intro i hL AL ht FR_hL M_hL faL hI
      obtain rfl : i = 3 := by omega
      have FA_AL : FaS AR AL (fun b => (4 ≤ b ∧ b ≤ 7) ∨ b = 15) := (faL).mono (fun x hx => by omega)
      refine WX.s1 rfl rfl ?_
      refine WX.s1 rfl rfl ?_
      refine WX.icmp rfl (fun c_270 => ?_) (fun c_270 => absurd ((nI_leI (a := 3) (b := 3) (by omega) (by omega)).mpr (by omega)) c_270)
      clear c_270
      obtain ⟨B1, eB1⟩ : ∃ B, B = AL := ⟨_, rfl⟩
      rw [← eB1] at M_hL FA_AL faL hI
      have FA_B1 := FA_AL
      have fa_B1 := faL
      clear FA_AL faL eB1
      refine WX.keep (y := 220) [0, 1, 2] (show ([0, 1, 2, 4] : List Nat).Nodup by decide) rfl ?_
      have hd3 := hI
      clear hI
      refine WX.s1 rfl rfl ?_
      refine WX.s1 (L' := [(0, .ref m), (1, .int 1), (2, .int (nI (a + 12))), (4, .int 0)]) rfl rfl ?_
      have lp331 : ∀ (t i : Nat) (hL : Nat → aE) (AL : Nat → Nat → Int32), i + t = 256 → MAt hL m I AL LN → Fr h hL (inM m) → FaS B1 AL (fun b => b = 4) → (∀ j, j < i → AL 4 j = B1 37 j) → WX (lk tX12_learn) (mM (d + 1)) Ψ 331 [(0, .ref m), (1, .int 1), (2, .int (nI (a + 12))), (4, .int (nI i))] [] (n, s, hL) := by
        clear M_hL FR_hL
        intro t
        induction t with
        | zero =>
          intro i hL AL ht M_hL FR_hL faL q1
          obtain rfl : i = 256 := by omega
          have FA_AL : FaS AR AL (fun b => (4 ≤ b ∧ b ≤ 7) ∨ b = 15) := (FA_B1).ztr ((faL).mono (fun x hx => by omega))
          refine WX.s1 rfl rfl ?_
          refine WX.s1 rfl rfl ?_
          refine WX.icmp rfl (fun c_336 => ?_) (fun c_336 => absurd ((nI_leI (a := 256) (b := 256) (by omega) (by omega)).mpr (by omega)) c_336)
          clear c_336
          obtain ⟨B2, eB2⟩ : ∃ B, B = AL := ⟨_, rfl⟩
          rw [← eB2] at M_hL FA_AL faL q1
          have FA_B2 := FA_AL
          have fa_B2 := faL
          clear FA_AL faL eB2
          refine WX.keep (y := 220) [0, 1, 2] (show ([0, 1, 2, 4] : List Nat).Nodup by decide) rfl ?_
          refine WX.s1 rfl rfl ?_
          refine WX.s1 (L' := [(0, .ref m), (1, .int 1), (2, .int (nI (a + 12))), (4, .int 0)]) rfl rfl ?_
          have lp362 : ∀ (t i : Nat) (hL : Nat → aE) (AL : Nat → Nat → Int32), i + t = 192 → MAt hL m I AL LN → Fr h hL (inM m) → FaS B2 AL (fun b => b = 5) → (∀ j, j < i → AL 5 j = B2 13 j) → WX (lk tX12_learn) (mM (d + 1)) Ψ 362 [(0, .ref m), (1, .int 1), (2, .int (nI (a + 12))), (4, .int (nI i))] [] (n, s, hL) := by
            clear M_hL FR_hL
            intro t
            induction t with
            | zero =>
              intro i hL AL ht M_hL FR_hL faL q2
              obtain rfl : i = 192 := by omega
              have FA_AL : FaS AR AL (fun b => (4 ≤ b ∧ b ≤ 7) ∨ b = 15) := (FA_B2).ztr ((faL).mono (fun x hx => by omega))
              refine WX.s1 rfl rfl ?_
              refine WX.s1 rfl rfl ?_
              refine WX.icmp rfl (fun c_367 => ?_) (fun c_367 => absurd ((nI_leI (a := 192) (b := 192) (by omega) (by omega)).mpr (by omega)) c_367)
              clear c_367
              obtain ⟨B3, eB3⟩ : ∃ B, B = AL := ⟨_, rfl⟩
              rw [← eB3] at M_hL FA_AL faL q2
              have FA_B3 := FA_AL
              have fa_B3 := faL
              clear FA_AL faL eB3
              refine WX.keep (y := 220) [0, 1, 2] (show ([0, 1, 2, 4] : List Nat).Nodup by decide) rfl ?_
              refine WX.s1 rfl rfl ?_
              refine WX.s1 (L' := [(0, .ref m), (1, .int 1), (2, .int (nI (a + 12))), (4, .int 0)]) rfl rfl ?_
              have lp393 : ∀ (t i : Nat) (hL : Nat → aE) (AL : Nat → Nat → Int32), i + t = 3 → MAt hL m I AL LN → Fr h hL (inM m) → FaS B3 AL (fun b => b = 6 ∨ b = 7) → (∀ j, j < i → AL 6 j = B3 14 j ∧ AL 7 j = B3 15 j) → WX (lk tX12_learn) (mM (d + 1)) Ψ 393 [(0, .ref m), (1, .int 1), (2, .int (nI (a + 12))), (4, .int (nI i))] [] (n, s, hL) := by
                clear M_hL FR_hL
                intro t
                induction t with
                | zero =>
                  intro i hL AL ht M_hL FR_hL faL q3
                  obtain rfl : i = 3 := by omega
                  have FA_AL : FaS AR AL (fun b => (4 ≤ b ∧ b ≤ 7) ∨ b = 15) := (FA_B3).ztr ((faL).mono (fun x hx => by omega))
                  refine WX.s1 rfl rfl ?_
                  refine WX.s1 rfl rfl ?_
                  refine WX.icmp rfl (fun c_396 => ?_) (fun c_396 => absurd ((nI_leI (a := 3) (b := 3) (by omega) (by omega)).mpr (by omega)) c_396)
                  clear c_396
                  refine WX.keep (y := 220) [0, 1, 2] (show ([0, 1, 2, 4] : List Nat).Nodup by decide) rfl ?_
                  have p4 : ∀ s, s < 256 → AL 4 s = nI (L s) := fun s hs => by rw [faL 4 (by decide), fa_B3 4 (by decide), q1 s hs, fa_B1 37 (by decide)]; exact hL37 s hs
                  have p5 : ∀ s, s < 192 → AL 5 s = AR 13 s := fun s hs => by rw [faL 5 (by decide), q2 s hs, fa_B2 13 (by decide), fa_B1 13 (by decide)]
                  have p6 : ∀ j, j < 3 → AL 6 j = AR 14 j := fun j hj => by rw [(q3 j hj).1, fa_B3 14 (by decide), fa_B2 14 (by decide), fa_B1 14 (by decide)]
                  have p7 : ∀ j, j < 3 → AL 7 j = nI (dIs l a j) := fun j hj => by rw [(q3 j hj).2, fa_B3 15 (by decide), fa_B2 15 (by decide)]; exact (hd3 j hj).2
                  have hD : DiF AL L (o1, u1) (o2, u2) (o3, u3) (dIs l a 0, dIs l a 1, dIs l a 2) := ⟨p4, ⟨(p6 0 (by decide)).trans w0.1, fun s hs => (p5 _ (by omega)).trans (w0.2 s hs)⟩, ⟨(p6 1 (by decide)).trans w1.1, fun s hs => (p5 _ (by omega)).trans (w1.2 s hs)⟩, ⟨(p6 2 (by decide)).trans w2.1, fun s hs => (p5 _ (by omega)).trans (w2.2 s hs)⟩, p7 0 (by decide), p7 1 (by decide), p7 2 (by decide)⟩
                  obtain ⟨I0, A0, hX, x3, x4, x5, x38, y2, y24, y43⟩ := hX
                  exact m_lrA1 (d := d) hm M_hL ⟨K_I_1, by rw [FA_AL 1 (by decide)]; exact hF.2⟩ ⟨I0, A0, hX, x3, x4, x5, x38, (FA_AL 2 (by decide)).trans y2, (FA_AL 24 (by decide)).trans y24, (FA_AL 43 (by decide)).trans y43⟩ hB ha h8 hD hLt (fun h9 I9 A9 f9 M9 q9 => k1 (fun i hi => (hd3 i hi).1) h9 I9 A9 ((FR_hL).ztr f9) M9 q9)
                | succ t ih =>
                  intro i hL AL ht M_hL FR_hL faL hInv
                  refine WX.s1 rfl rfl ?_
                  refine WX.s1 rfl rfl ?_
                  refine WX.icmp rfl (fun c_396 => absurd c_396 (fun zz_ => absurd ((nI_leI (a := 3) (b := i) (by omega) (by omega)).mp zz_) (Nat.not_le.mpr (by omega)))) (fun c_396 => ?_)
                  clear c_396
                  refine WX.s1 rfl rfl ?_
                  refine WX.mget rfl hm M_hL rfl ?_
                  refine WX.s1 rfl rfl ?_
                  refine WX.s1 rfl rfl ?_
                  refine WX.mget rfl hm M_hL rfl ?_
                  refine WX.s1 rfl rfl ?_
                  refine WX.mald (c := 14) rfl hm M_hL (by decide) (by decide) (by decide) (by decide) (vp_in_nI (N := 3) (by omega) (by decide)) ?_
                  rw [nI_clamp (by omega), faL 14 (by decide)]
                  refine WX.mast (c := 6) rfl hm M_hL (by decide) (by decide) (by decide) (by decide) (vp_in_nI (N := 3) (by omega) (by decide)) (fun h412n1 A412n1 e_A412n1 M_h412n1 frh412n1 => ?_)
                  try dsimp only at e_A412n1
                  have FR_h412n1 := (FR_hL).ztr frh412n1
                  clear M_hL FR_hL frh412n1
                  refine WX.s1 rfl rfl ?_
                  refine WX.mget rfl hm M_h412n1 rfl ?_
                  refine WX.s1 rfl rfl ?_
                  refine WX.s1 rfl rfl ?_
                  refine WX.mget rfl hm M_h412n1 rfl ?_
                  refine WX.s1 rfl rfl ?_
                  refine WX.mald (c := 15) rfl hm M_h412n1 (by decide) (by decide) (by decide) (by decide) (vp_in_nI (N := 3) (by omega) (by decide)) ?_
                  rw [nI_clamp (by omega), e_A412n1, upA_ne (by decide), faL 15 (by decide)]
                  refine WX.mast (c := 7) rfl hm M_h412n1 (by decide) (by decide) (by decide) (by decide) (vp_in_nI (N := 3) (by omega) (by decide)) (fun h426n2 A426n2 e_A426n2 M_h426n2 frh426n2 => ?_)
                  try dsimp only at e_A426n2
                  have FR_h426n2 := (FR_h412n1).ztr frh426n2
                  clear M_h412n1 FR_h412n1 frh426n2
                  refine WX.s1 (L' := [(0, .ref m), (1, .int 1), (2, .int (nI (a + 12))), (4, .int ((nI i) + 1))]) rfl rfl ?_
                  rw [show ((nI i) + 1) = nI (i + 1) from nI_add i 1]
                  refine WX.s1 rfl rfl ?_
                  rw [nI_clamp (by omega)] at e_A412n1
                  rw [nI_clamp (by omega)] at e_A426n2
                  refine ih (i + 1) h426n2 A426n2 (by omega) M_h426n2 FR_h426n2 (((faL).ast e_A412n1 (by omega)).ast e_A426n2 (by omega)) ?_
                  intro j hj
                  by_cases z : j = i
                  · rw [z]; refine ⟨?_, ?_⟩
                    · rw [e_A426n2, upA_ne (by decide), e_A412n1, upA_same, pk_us]
                    · rw [e_A426n2, upA_same, pk_us]
                  · have q := hInv j (by omega)
                    refine ⟨?_, ?_⟩
                    · rw [e_A426n2, upA_ne (by decide), e_A412n1, upA_same, pk_un z]; exact q.1
                    · rw [e_A426n2, upA_same, pk_un z, e_A412n1, upA_ne (by decide)]; exact q.2
              exact lp393 3 0 hL B3 (by omega) M_hL FR_hL FaS.rf (fun j hj => absurd hj (Nat.not_lt_zero j))
            | succ t ih =>
              intro i hL AL ht M_hL FR_hL faL hInv
              refine WX.s1 rfl rfl ?_
              refine WX.s1 rfl rfl ?_
              refine WX.icmp rfl (fun c_367 => absurd c_367 (fun zz_ => absurd ((nI_leI (a := 192) (b := i) (by omega) (by omega)).mp zz_) (Nat.not_le.mpr (by omega)))) (fun c_367 => ?_)
              clear c_367
              refine WX.s1 rfl rfl ?_
              refine WX.mget rfl hm M_hL rfl ?_
              refine WX.s1 rfl rfl ?_
              refine WX.s1 rfl rfl ?_
              refine WX.mget rfl hm M_hL rfl ?_
              refine WX.s1 rfl rfl ?_
              refine WX.mald (c := 13) rfl hm M_hL (by decide) (by decide) (by decide) (by decide) (vp_in_nI (N := 192) (by omega) (by decide)) ?_
              rw [nI_clamp (by omega), faL 13 (by decide)]
              refine WX.mast (c := 5) rfl hm M_hL (by decide) (by decide) (by decide) (by decide) (vp_in_nI (N := 192) (by omega) (by decide)) (fun h383n3 A383n3 e_A383n3 M_h383n3 frh383n3 => ?_)
              try dsimp only at e_A383n3
              have FR_h383n3 := (FR_hL).ztr frh383n3
              clear M_hL FR_hL frh383n3
              refine WX.s1 (L' := [(0, .ref m), (1, .int 1), (2, .int (nI (a + 12))), (4, .int ((nI i) + 1))]) rfl rfl ?_
              rw [show ((nI i) + 1) = nI (i + 1) from nI_add i 1]
              refine WX.s1 rfl rfl ?_
              rw [nI_clamp (by omega)] at e_A383n3
              refine ih (i + 1) h383n3 A383n3 (by omega) M_h383n3 FR_h383n3 ((faL).ast e_A383n3 (by omega)) ?_
              intro j hj
              by_cases z : j = i
              · rw [z, e_A383n3, upA_same, pk_us]
              · rw [e_A383n3, upA_same, pk_un z]; exact hInv j (by omega)
          exact lp362 192 0 hL B2 (by omega) M_hL FR_hL FaS.rf (fun j hj => absurd hj (Nat.not_lt_zero j))
        | succ t ih =>
          intro i hL AL ht M_hL FR_hL faL hInv
          refine WX.s1 rfl rfl ?_
          refine WX.s1 rfl rfl ?_
          refine WX.icmp rfl (fun c_336 => absurd c_336 (fun zz_ => absurd ((nI_leI (a := 256) (b := i) (by omega) (by omega)).mp zz_) (Nat.not_le.mpr (by omega)))) (fun c_336 => ?_)
          clear c_336
          refine WX.s1 rfl rfl ?_
          refine WX.mget rfl hm M_hL rfl ?_
          refine WX.s1 rfl rfl ?_
          refine WX.s1 rfl rfl ?_
          refine WX.mget rfl hm M_hL rfl ?_
          refine WX.s1 rfl rfl ?_
          refine WX.mald (c := 37) rfl hm M_hL (by decide) (by decide) (by decide) (by decide) (vp_in_nI (N := 256) (by omega) (by decide)) ?_
          rw [nI_clamp (by omega), faL 37 (by decide)]
          refine WX.mast (c := 4) rfl hm M_hL (by decide) (by decide) (by decide) (by decide) (vp_in_nI (N := 256) (by omega) (by decide)) (fun h352n4 A352n4 e_A352n4 M_h352n4 frh352n4 => ?_)
          try dsimp only at e_A352n4
          have FR_h352n4 := (FR_hL).ztr frh352n4
          clear M_hL FR_hL frh352n4
          refine WX.s1 (L' := [(0, .ref m), (1, .int 1), (2, .int (nI (a + 12))), (4, .int ((nI i) + 1))]) rfl rfl ?_
          rw [show ((nI i) + 1) = nI (i + 1) from nI_add i 1]
          refine WX.s1 rfl rfl ?_
          rw [nI_clamp (by omega)] at e_A352n4
          refine ih (i + 1) h352n4 A352n4 (by omega) M_h352n4 FR_h352n4 ((faL).ast e_A352n4 (by omega)) ?_
          intro j hj
          by_cases z : j = i
          · rw [z, e_A352n4, upA_same, pk_us]
          · rw [e_A352n4, upA_same, pk_un z]; exact hInv j (by omega)
      exact lp331 256 0 hL B1 (by omega) M_hL FR_hL FaS.rf (fun j hj => absurd hj (Nat.not_lt_zero j))
    | succ t9 ih =>
      intro i hL AL ht FR_hL M_hL faL hI
      have hd4 := wd4_lt hlb a i
      refine WX.s1 rfl rfl ?_
      refine WX.s1 rfl rfl ?_
      refine WX.icmp rfl (fun c_270 => absurd c_270 (fun zz_ => absurd ((nI_leI (a := 3) (b := i) (by omega) (by omega)).mp zz_) (Nat.not_le.mpr (by omega)))) (fun c_270 => ?_)
      clear c_270
      refine WX.s1 rfl rfl ?_
      refine WX.s1 rfl rfl ?_
      refine WX.s1 rfl rfl ?_
      refine WX.s1 (S' := [.int ((nI (a + 12)) - 12), .ref m]) rfl rfl ?_
      rw [show nI (a + 12) - 12 = nI a from (nI_subN (b := 12) (by omega)).trans (congrArg nI (by omega))]
      refine WX.s1 rfl rfl ?_
      refine WX.s1 rfl rfl ?_
      refine WX.s1 (S' := [.int (4 * (nI i)), .int (nI a), .ref m]) rfl rfl ?_
      rw [show (4 * (nI i)) = nI (4 * i) from (Int32.ofNat_mul 4 i).symm]
      refine WX.s1 (S' := [.int ((nI a) + (nI (4 * i))), .ref m]) rfl rfl ?_
      rw [show ((nI a) + (nI (4 * i))) = nI (a + 4 * i) from nI_add a (4 * i)]
      refine WX.s1 rfl rfl ?_
      refine WX.callC (vs := [.ref m, .int (nI (a + 4 * i)), .int (nI 4)]) rfl rfl rfl (Nat.le_of_ble_eq_true rfl) ((M_hL).rcv hm) ?_
      refine m_word (d := d) hm M_hL ⟨K_I_1, by rw [faL 1 (by decide)]; exact hF.2⟩ hlb hle (by omega) (by decide) ?_
      show WX _ _ _ 287 [(0, .ref m), (1, .int 1), (2, .int (nI (a + 12))), (4, .int (nI i))] [.long (lN (dIs l a i))] (n, s, hL)
      refine WX.s1 (L' := [(0, .ref m), (1, .int 1), (2, .int (nI (a + 12))), (4, .int (nI i)), (5, .long (lN (dIs l a i)))]) rfl rfl ?_
      refine WX.s1 rfl rfl ?_
      refine WX.s1 rfl rfl ?_
      refine WX.s1 (S' := [.int (lg_cmp (lN (dIs l a i)) 0)]) rfl rfl ?_
      refine WX.if_ rfl (fun c_293 => ?_) (fun c_293 => ?_)
      · skip
        refine WX.s1 rfl rfl ?_
        exact WX.ret1 rfl (k0 (fun z => absurd ((lcN_eq (b := 0) (by omega) (by decide)).mp c_293) (z i (by omega)).1) hL AL FR_hL M_hL faL)
      · skip
        refine WX.s1 rfl rfl ?_
        refine WX.s1 rfl rfl ?_
        refine WX.mgetK (x := (nI (l).length)) rfl hm M_hL rfl K_I_1 ?_
        refine WX.s1 rfl rfl ?_
        refine WX.s1 (S' := [.int ((nI (l).length) - (nI (a + 12))), .long (lN (dIs l a i))]) rfl rfl ?_
        rw [nI_subN ha]
        refine WX.s1 (S' := [.long ((nI ((l).length - (a + 12))).toInt64), .long (lN (dIs l a i))]) rfl rfl ?_
        rw [nI_l (by omega)]
        refine WX.s1 (S' := [.int (lg_cmp (lN (dIs l a i)) (lN ((l).length - (a + 12))))]) rfl rfl ?_
        refine WX.if_ rfl (fun c_306 => ?_) (fun c_306 => ?_)
        · skip
          refine WX.s1 rfl rfl ?_
          refine WX.mget rfl hm M_hL rfl ?_
          refine WX.s1 rfl rfl ?_
          refine WX.s1 rfl rfl ?_
          refine WX.s1 (S' := [.int ((lN (dIs l a i)).toInt32), .int (nI i), .ref (m + 15)]) rfl rfl ?_
          rw [lN_i]
          refine WX.mast (c := 15) rfl hm M_hL (by decide) (by decide) (by decide) (by decide) (vp_in_nI (N := 3) (by omega) (by decide)) (fun h321n5 A321n5 e_A321n5 M_h321n5 frh321n5 => ?_)
          try dsimp only at e_A321n5
          have FR_h321n5 := (FR_hL).ztr frh321n5
          clear M_hL FR_hL frh321n5
          refine WX.s1 (L' := [(0, .ref m), (1, .int 1), (2, .int (nI (a + 12))), (4, .int ((nI i) + 1)), (5, .long (lN (dIs l a i)))]) rfl rfl ?_
          rw [show ((nI i) + 1) = nI (i + 1) from nI_add i 1]
          refine WX.s1 rfl rfl ?_
          rw [nI_clamp (by omega)] at e_A321n5
          have hn0 : (dIs l a i) ≠ 0 := fun z => c_293 ((lcN_eq (b := 0) (by omega) (by decide)).mpr z)
          have hnl : (dIs l a i) ≤ ((l).length - (a + 12)) := (pk_lLE (by omega) (by omega)).mp ((lcmp_le).mp c_306)
          refine WX.keep (y := 220) [0, 1, 2, 4] (show ([0, 1, 2, 4, 5] : List Nat).Nodup by decide) rfl ?_
          refine ih (i + 1) h321n5 A321n5 (by omega) FR_h321n5 M_h321n5 ((faL).ast e_A321n5 rfl) (fun j hj => ?_)
          by_cases z : j = i
          · rw [z]; exact ⟨⟨hn0, hnl⟩, by rw [e_A321n5, upA_same, pk_us]⟩
          · rw [e_A321n5, upA_same, pk_un z]; exact hI j (by omega)
        · skip
          refine WX.s1 rfl rfl ?_
          exact WX.ret1 rfl (k0 (fun z => c_306 ((lcmp_le).mpr ((pk_lLE (by omega) (by omega)).mpr (z i (by omega)).2))) hL AL FR_hL M_hL faL)
  exact lp 3 0 h AR (by omega) FR_h M_h FaS.rf (fun j hj => absurd hj (Nat.not_lt_zero j))
