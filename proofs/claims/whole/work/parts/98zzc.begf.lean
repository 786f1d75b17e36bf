/-! the reference: a frame begun; a dictionary's forms as they lie -/
def mxF (L : Nat → Nat) : Nat → Nat
  | 0 => 0
  | i + 1 => max (mxF L i) (L i)
theorem mxF_le {L : Nat → Nat} {t : Nat} : ∀ i, (∀ s, s < i → L s ≤ t) → mxF L i ≤ t
  | 0, _ => Nat.zero_le t
  | i + 1, h => Nat.max_le.mpr ⟨mxF_le i (fun s hs => h s (by omega)), h i (by omega)⟩
theorem mxF_ge {L : Nat → Nat} {s : Nat} : ∀ i, s < i → L s ≤ mxF L i
  | 0, h => absurd h (Nat.not_lt_zero s)
  | i + 1, h => by
    show L s ≤ max (mxF L i) (L i)
    by_cases z : s = i
    · rw [z]; exact Nat.le_max_right _ _
    · exact Nat.le_trans (mxF_ge i (by omega)) (Nat.le_max_left _ _)
def stN : PkS := (none, none, none, none, (1, 4, 8), fun _ => 0)
def DiF (A : Nat → Nat → Int32) (L : Nat → Nat) (t1 t2 t3 : Tb) (lt : Sq) : Prop := (∀ s, s < 256 → A 4 s = nI (L s)) ∧ (A 6 0 = nI t1.1 ∧ ∀ s, s < 64 → A 5 (64 * 0 + s) = qI (t1.2 s)) ∧ (A 6 1 = nI t2.1 ∧ ∀ s, s < 64 → A 5 (64 * 1 + s) = qI (t2.2 s)) ∧ (A 6 2 = nI t3.1 ∧ ∀ s, s < 64 → A 5 (64 * 2 + s) = qI (t3.2 s)) ∧ (A 7 0 = nI lt.1 ∧ A 7 1 = nI lt.2.1 ∧ A 7 2 = nI lt.2.2)
def DicM (I : Nat → Int32) (A : Nat → Nat → Int32) (T : PkS) : Prop := (I 9 = 0 ∧ T = stN) ∨ (I 9 = 1 ∧ ∃ L t t1 t2 t3 lt, T = (some (L, t), some t1, some t2, some t3, lt, fun _ => 0) ∧ DiF A L t1 t2 t3 lt ∧ ∃ s, s < 256 ∧ L s = t)
theorem DicM.mv {I J : Nat → Int32} {A B : Nat → Nat → Int32} {T : PkS} (h : DicM I A T) (e : J 9 = I 9) (e4 : B 4 = A 4) (e5 : B 5 = A 5) (e6 : B 6 = A 6) (e7 : B 7 = A 7) : DicM J B T := by
  rcases h with ⟨a, b⟩ | ⟨a, L, t, t1, t2, t3, lt, b, c, d⟩
  · exact Or.inl ⟨(e).trans a, b⟩
  · refine Or.inr ⟨(e).trans a, L, t, t1, t2, t3, lt, b, ?_, d⟩
    unfold DiF
    rw [e4, e5, e6, e7]
    exact c
def RefU (I : Nat → Int32) (A : Nat → Nat → Int32) (S : PkS) : Prop := RefL I A S.1 ∧ RefT A 0 S.2.1 ∧ RefT A 1 S.2.2.1 ∧ RefT A 2 S.2.2.2.1 ∧ LatM A S.2.2.2.2.1
set_option maxRecDepth 20000 in
theorem m_begF0 {d n s : Nat} {h : Nat → aE} {m : Nat} {I : Nat → Int32} {AR : Nat → Nat → Int32} {LN : Nat → Int64}  (hm : m + 43 < n) (M_h : MAt h m I AR LN)  (K_I_9 : I 9 = 0) {Ψ : Option Value → aH → Prop} (kk : ∀ h' I' A', Fr h h' (inM m) → MAt h' m I' A' LN → Fi I I' (fun f => f = 15) → FaS AR A' (fun b => 8 ≤ b ∧ b ≤ 11) → RefU I' A' stN → Ψ none (n, s, h')) : WO (mM (d + 1)) 205 [.ref m] (n, s, h) Ψ := by
  refine WO.of (Nat.le_of_ble_eq_true rfl) ?_
  have FR_h : Fr h h (inM m) := Fr.rf
  have FI_I : Fi I I (fun f => f = 15) := Fi.rf
  have FA_AR : FaS AR AR (fun b => 8 ≤ b ∧ b ≤ 11) := FaS.rf
  show WX (lk tX12_beginFrame) (mM d) Ψ 0 [(0, .ref m)] [] (n, s, h)
  refine WX.s1 rfl rfl ?_
  refine WX.s1 rfl rfl ?_
  refine WX.mput rfl hm M_h (rfl) (by decide) (fun _ => rfl) (fun h2n1 I2n1 e_I2n1 M_h2n1 frh2n1 => ?_)
  have FR_h2n1 := (FR_h).ztr frh2n1
  have FI_I2n1 : Fi I I2n1 (fun f => f = 15) := (FI_I).zup e_I2n1 (by first | exact rfl | decide | omega)
  have K_I2n1_9 : I2n1 9 = 0 := by rw [e_I2n1]; exact (pk_un (by decide)).trans K_I_9
  have K_I2n1_15 : I2n1 15 = 0 := by rw [e_I2n1]; exact pk_us
  clear M_h FR_h FI_I e_I2n1 frh2n1 K_I_9
  refine WX.s1 rfl rfl ?_
  refine WX.s1 (L' := [(0, .ref m), (1, .int 0)]) rfl rfl ?_
  refine WX.s1 rfl rfl ?_
  refine WX.s1 rfl rfl ?_
  refine WX.icmp rfl (fun c_9 => absurd c_9 (by decide)) (fun c_9 => ?_)
  clear c_9
  refine WX.s1 rfl rfl ?_
  refine WX.mget rfl hm M_h2n1 rfl ?_
  refine WX.s1 rfl rfl ?_
  refine WX.s1 rfl rfl ?_
  refine WX.mast (c := 10) rfl hm M_h2n1 (by decide) (by decide) (by decide) (by decide) (by unfold vp_in; decide) (fun h18n2 A18n2 e_A18n2 M_h18n2 frh18n2 => ?_)
  try dsimp only at e_A18n2
  have FR_h18n2 := (FR_h2n1).ztr frh18n2
  clear M_h2n1 FR_h2n1 frh18n2
  refine WX.s1 rfl rfl ?_
  refine WX.mget rfl hm M_h18n2 rfl ?_
  refine WX.s1 rfl rfl ?_
  refine WX.s1 rfl rfl ?_
  refine WX.if_ rfl (fun c_25 => absurd c_25 (by decide)) (fun c_25 => ?_)
  clear c_25
  refine WX.s1 rfl rfl ?_
  refine WX.s1 rfl rfl ?_
  refine WX.mast (c := 11) rfl hm M_h18n2 (by decide) (by decide) (by decide) (by decide) (by unfold vp_in; decide) (fun h35n3 A35n3 e_A35n3 M_h35n3 frh35n3 => ?_)
  try dsimp only at e_A35n3
  have FR_h35n3 := (FR_h18n2).ztr frh35n3
  clear M_h18n2 FR_h18n2 frh35n3
  refine WX.s1 (L' := [(0, .ref m), (1, .int (0 + 1))]) rfl rfl ?_
  refine WX.s1 rfl rfl ?_
  refine WX.s1 rfl rfl ?_
  refine WX.s1 rfl rfl ?_
  refine WX.icmp rfl (fun c_9 => absurd c_9 (by decide)) (fun c_9 => ?_)
  clear c_9
  refine WX.s1 rfl rfl ?_
  refine WX.mget rfl hm M_h35n3 rfl ?_
  refine WX.s1 rfl rfl ?_
  refine WX.s1 rfl rfl ?_
  refine WX.mast (c := 10) rfl hm M_h35n3 (by decide) (by decide) (by decide) (by decide) (by unfold vp_in; decide) (fun h18n4 A18n4 e_A18n4 M_h18n4 frh18n4 => ?_)
  try dsimp only at e_A18n4
  have FR_h18n4 := (FR_h35n3).ztr frh18n4
  clear M_h35n3 FR_h35n3 frh18n4
  refine WX.s1 rfl rfl ?_
  refine WX.mget rfl hm M_h18n4 rfl ?_
  refine WX.s1 rfl rfl ?_
  refine WX.s1 rfl rfl ?_
  refine WX.if_ rfl (fun c_25 => ?_) (fun c_25 => absurd (by decide) c_25)
  clear c_25
  refine WX.s1 rfl rfl ?_
  refine WX.s1 rfl rfl ?_
  refine WX.s1 (S' := [.int (4 * (0 + 1)), .int (0 + 1), .ref (m + 11)]) rfl rfl ?_
  refine WX.mast (c := 11) rfl hm M_h18n4 (by decide) (by decide) (by decide) (by decide) (by unfold vp_in; decide) (fun h35n5 A35n5 e_A35n5 M_h35n5 frh35n5 => ?_)
  try dsimp only at e_A35n5
  have FR_h35n5 := (FR_h18n4).ztr frh35n5
  clear M_h18n4 FR_h18n4 frh35n5
  refine WX.s1 (L' := [(0, .ref m), (1, .int ((0 + 1) + 1))]) rfl rfl ?_
  refine WX.s1 rfl rfl ?_
  refine WX.s1 rfl rfl ?_
  refine WX.s1 rfl rfl ?_
  refine WX.icmp rfl (fun c_9 => absurd c_9 (by decide)) (fun c_9 => ?_)
  clear c_9
  refine WX.s1 rfl rfl ?_
  refine WX.mget rfl hm M_h35n5 rfl ?_
  refine WX.s1 rfl rfl ?_
  refine WX.s1 rfl rfl ?_
  refine WX.mast (c := 10) rfl hm M_h35n5 (by decide) (by decide) (by decide) (by decide) (by unfold vp_in; decide) (fun h18n6 A18n6 e_A18n6 M_h18n6 frh18n6 => ?_)
  try dsimp only at e_A18n6
  have FR_h18n6 := (FR_h35n5).ztr frh18n6
  clear M_h35n5 FR_h35n5 frh18n6
  refine WX.s1 rfl rfl ?_
  refine WX.mget rfl hm M_h18n6 rfl ?_
  refine WX.s1 rfl rfl ?_
  refine WX.s1 rfl rfl ?_
  refine WX.if_ rfl (fun c_25 => ?_) (fun c_25 => absurd (by decide) c_25)
  clear c_25
  refine WX.s1 rfl rfl ?_
  refine WX.s1 rfl rfl ?_
  refine WX.s1 (S' := [.int (4 * ((0 + 1) + 1)), .int ((0 + 1) + 1), .ref (m + 11)]) rfl rfl ?_
  refine WX.mast (c := 11) rfl hm M_h18n6 (by decide) (by decide) (by decide) (by decide) (by unfold vp_in; decide) (fun h35n7 A35n7 e_A35n7 M_h35n7 frh35n7 => ?_)
  try dsimp only at e_A35n7
  have FR_h35n7 := (FR_h18n6).ztr frh35n7
  clear M_h18n6 FR_h18n6 frh35n7
  refine WX.s1 (L' := [(0, .ref m), (1, .int (((0 + 1) + 1) + 1))]) rfl rfl ?_
  refine WX.s1 rfl rfl ?_
  refine WX.s1 rfl rfl ?_
  refine WX.s1 rfl rfl ?_
  refine WX.icmp rfl (fun c_9 => ?_) (fun c_9 => absurd (by decide) c_9)
  clear c_9
  have z_A18n2 : A18n2 = upA AR 10 0 (-1) := e_A18n2
  have z_A35n3 : A35n3 = upA A18n2 11 0 (1) := e_A35n3
  have z_A18n4 : A18n4 = upA A35n3 10 1 (-1) := e_A18n4
  have z_A35n5 : A35n5 = upA A18n4 11 1 (4) := e_A35n5
  have z_A18n6 : A18n6 = upA A35n5 10 2 (-1) := e_A18n6
  have z_A35n7 : A35n7 = upA A18n6 11 2 (8) := e_A35n7
  have hA10 : A35n7 10 0 = -1 ∧ A35n7 10 1 = -1 ∧ A35n7 10 2 = -1 := ⟨by rw [z_A35n7, upA_ne (by decide), z_A18n6, upA_same, pk_un (by decide), z_A35n5, upA_ne (by decide), z_A18n4, upA_same, pk_un (by decide), z_A35n3, upA_ne (by decide), z_A18n2, upA_same, pk_us], by rw [z_A35n7, upA_ne (by decide), z_A18n6, upA_same, pk_un (by decide), z_A35n5, upA_ne (by decide), z_A18n4, upA_same, pk_us], by rw [z_A35n7, upA_ne (by decide), z_A18n6, upA_same, pk_us]⟩
  have hA11 : LatM A35n7 (1, 4, 8) := ⟨by rw [z_A35n7, upA_same, pk_un (by decide), z_A18n6, upA_ne (by decide), z_A35n5, upA_same, pk_un (by decide), z_A18n4, upA_ne (by decide), z_A35n3, upA_same, pk_us]; rfl, by rw [z_A35n7, upA_same, pk_un (by decide), z_A18n6, upA_ne (by decide), z_A35n5, upA_same, pk_us]; rfl, by rw [z_A35n7, upA_same, pk_us]; rfl⟩
  have FA_A35n7 : FaS AR A35n7 (fun b => 8 ≤ b ∧ b ≤ 11) := (((((((FA_AR).ast z_A18n2 (by omega)).ast z_A35n3 (by omega)).ast z_A18n4 (by omega)).ast z_A35n5 (by omega)).ast z_A18n6 (by omega)).ast z_A35n7 (by omega))
  clear e_A18n2 z_A18n2 e_A35n3 z_A35n3 e_A18n4 z_A18n4 e_A35n5 z_A35n5 e_A18n6 z_A18n6 e_A35n7 z_A35n7
  refine WX.keep (y := 205) [0] (show ([0, 1] : List Nat).Nodup by decide) rfl ?_
  refine WX.s1 rfl rfl ?_
  refine WX.mgetK (x := 0) rfl hm M_h35n7 rfl K_I2n1_9 ?_
  refine WX.if_ rfl (fun c_46 => absurd c_46 (by decide)) (fun c_46 => ?_)
  clear c_46
  exact WX.ret0 rfl (kk h35n7 I2n1 A35n7 FR_h35n7 M_h35n7 FI_I2n1 FA_A35n7 ⟨K_I2n1_15, hA10.1, hA10.2.1, hA10.2.2, hA11⟩)
set_option maxRecDepth 20000 in
theorem m_begF1 {d n s : Nat} {h : Nat → aE} {m : Nat} {I : Nat → Int32} {AR : Nat → Nat → Int32} {LN : Nat → Int64} {L : Nat → Nat} {t : Nat} {t1 t2 t3 : Tb} {lt : Sq} (hm : m + 43 < n) (M_h : MAt h m I AR LN) (hL18 : ∀ s, s < 256 → L s ≤ 18) (hD : DiF AR L t1 t2 t3 lt) (ht : mxF L 256 = t) (K_I_9 : I 9 = 1) {Ψ : Option Value → aH → Prop} (kk : ∀ h' I' A', Fr h h' (inM m) → MAt h' m I' A' LN → Fi I I' (fun f => f = 15) → FaS AR A' (fun b => 8 ≤ b ∧ b ≤ 11) → RefU I' A' (some (L, t), some t1, some t2, some t3, lt, fun _ => 0) → Ψ none (n, s, h')) : WO (mM (d + 1)) 205 [.ref m] (n, s, h) Ψ := by
  refine WO.of (Nat.le_of_ble_eq_true rfl) ?_
  have FR_h : Fr h h (inM m) := Fr.rf
  have FI_I : Fi I I (fun f => f = 15) := Fi.rf
  have FA_AR : FaS AR AR (fun b => 8 ≤ b ∧ b ≤ 11) := FaS.rf
  show WX (lk tX12_beginFrame) (mM d) Ψ 0 [(0, .ref m)] [] (n, s, h)
  refine WX.s1 rfl rfl ?_
  refine WX.s1 rfl rfl ?_
  refine WX.mput rfl hm M_h (rfl) (by decide) (fun _ => rfl) (fun h2n1 I2n1 e_I2n1 M_h2n1 frh2n1 => ?_)
  have FR_h2n1 := (FR_h).ztr frh2n1
  have FI_I2n1 : Fi I I2n1 (fun f => f = 15) := (FI_I).zup e_I2n1 (by first | exact rfl | decide | omega)
  have K_I2n1_9 : I2n1 9 = 1 := by rw [e_I2n1]; exact (pk_un (by decide)).trans K_I_9
  have K_I2n1_15 : I2n1 15 = 0 := by rw [e_I2n1]; exact pk_us
  clear M_h FR_h FI_I e_I2n1 frh2n1 K_I_9
  refine WX.s1 rfl rfl ?_
  refine WX.s1 (L' := [(0, .ref m), (1, .int 0)]) rfl rfl ?_
  refine WX.s1 rfl rfl ?_
  refine WX.s1 rfl rfl ?_
  refine WX.icmp rfl (fun c_9 => absurd c_9 (by decide)) (fun c_9 => ?_)
  clear c_9
  refine WX.s1 rfl rfl ?_
  refine WX.mget rfl hm M_h2n1 rfl ?_
  refine WX.s1 rfl rfl ?_
  refine WX.s1 rfl rfl ?_
  refine WX.mast (c := 10) rfl hm M_h2n1 (by decide) (by decide) (by decide) (by decide) (by unfold vp_in; decide) (fun h18n2 A18n2 e_A18n2 M_h18n2 frh18n2 => ?_)
  try dsimp only at e_A18n2
  have FR_h18n2 := (FR_h2n1).ztr frh18n2
  clear M_h2n1 FR_h2n1 frh18n2
  refine WX.s1 rfl rfl ?_
  refine WX.mget rfl hm M_h18n2 rfl ?_
  refine WX.s1 rfl rfl ?_
  refine WX.s1 rfl rfl ?_
  refine WX.if_ rfl (fun c_25 => absurd c_25 (by decide)) (fun c_25 => ?_)
  clear c_25
  refine WX.s1 rfl rfl ?_
  refine WX.s1 rfl rfl ?_
  refine WX.mast (c := 11) rfl hm M_h18n2 (by decide) (by decide) (by decide) (by decide) (by unfold vp_in; decide) (fun h35n3 A35n3 e_A35n3 M_h35n3 frh35n3 => ?_)
  try dsimp only at e_A35n3
  have FR_h35n3 := (FR_h18n2).ztr frh35n3
  clear M_h18n2 FR_h18n2 frh35n3
  refine WX.s1 (L' := [(0, .ref m), (1, .int (0 + 1))]) rfl rfl ?_
  refine WX.s1 rfl rfl ?_
  refine WX.s1 rfl rfl ?_
  refine WX.s1 rfl rfl ?_
  refine WX.icmp rfl (fun c_9 => absurd c_9 (by decide)) (fun c_9 => ?_)
  clear c_9
  refine WX.s1 rfl rfl ?_
  refine WX.mget rfl hm M_h35n3 rfl ?_
  refine WX.s1 rfl rfl ?_
  refine WX.s1 rfl rfl ?_
  refine WX.mast (c := 10) rfl hm M_h35n3 (by decide) (by decide) (by decide) (by decide) (by unfold vp_in; decide) (fun h18n4 A18n4 e_A18n4 M_h18n4 frh18n4 => ?_)
  try dsimp only at e_A18n4
  have FR_h18n4 := (FR_h35n3).ztr frh18n4
  clear M_h35n3 FR_h35n3 frh18n4
  refine WX.s1 rfl rfl ?_
  refine WX.mget rfl hm M_h18n4 rfl ?_
  refine WX.s1 rfl rfl ?_
  refine WX.s1 rfl rfl ?_
  refine WX.if_ rfl (fun c_25 => ?_) (fun c_25 => absurd (by decide) c_25)
  clear c_25
  refine WX.s1 rfl rfl ?_
  refine WX.s1 rfl rfl ?_
  refine WX.s1 (S' := [.int (4 * (0 + 1)), .int (0 + 1), .ref (m + 11)]) rfl rfl ?_
  refine WX.mast (c := 11) rfl hm M_h18n4 (by decide) (by decide) (by decide) (by decide) (by unfold vp_in; decide) (fun h35n5 A35n5 e_A35n5 M_h35n5 frh35n5 => ?_)
  try dsimp only at e_A35n5
  have FR_h35n5 := (FR_h18n4).ztr frh35n5
  clear M_h18n4 FR_h18n4 frh35n5
  refine WX.s1 (L' := [(0, .ref m), (1, .int ((0 + 1) + 1))]) rfl rfl ?_
  refine WX.s1 rfl rfl ?_
  refine WX.s1 rfl rfl ?_
  refine WX.s1 rfl rfl ?_
  refine WX.icmp rfl (fun c_9 => absurd c_9 (by decide)) (fun c_9 => ?_)
  clear c_9
  refine WX.s1 rfl rfl ?_
  refine WX.mget rfl hm M_h35n5 rfl ?_
  refine WX.s1 rfl rfl ?_
  refine WX.s1 rfl rfl ?_
  refine WX.mast (c := 10) rfl hm M_h35n5 (by decide) (by decide) (by decide) (by decide) (by unfold vp_in; decide) (fun h18n6 A18n6 e_A18n6 M_h18n6 frh18n6 => ?_)
  try dsimp only at e_A18n6
  have FR_h18n6 := (FR_h35n5).ztr frh18n6
  clear M_h35n5 FR_h35n5 frh18n6
  refine WX.s1 rfl rfl ?_
  refine WX.mget rfl hm M_h18n6 rfl ?_
  refine WX.s1 rfl rfl ?_
  refine WX.s1 rfl rfl ?_
  refine WX.if_ rfl (fun c_25 => ?_) (fun c_25 => absurd (by decide) c_25)
  clear c_25
  refine WX.s1 rfl rfl ?_
  refine WX.s1 rfl rfl ?_
  refine WX.s1 (S' := [.int (4 * ((0 + 1) + 1)), .int ((0 + 1) + 1), .ref (m + 11)]) rfl rfl ?_
  refine WX.mast (c := 11) rfl hm M_h18n6 (by decide) (by decide) (by decide) (by decide) (by unfold vp_in; decide) (fun h35n7 A35n7 e_A35n7 M_h35n7 frh35n7 => ?_)
  try dsimp only at e_A35n7
  have FR_h35n7 := (FR_h18n6).ztr frh35n7
  clear M_h18n6 FR_h18n6 frh35n7
  refine WX.s1 (L' := [(0, .ref m), (1, .int (((0 + 1) + 1) + 1))]) rfl rfl ?_
  refine WX.s1 rfl rfl ?_
  refine WX.s1 rfl rfl ?_
  refine WX.s1 rfl rfl ?_
  refine WX.icmp rfl (fun c_9 => ?_) (fun c_9 => absurd (by decide) c_9)
  clear c_9
  have z_A18n2 : A18n2 = upA AR 10 0 (-1) := e_A18n2
  have z_A35n3 : A35n3 = upA A18n2 11 0 (1) := e_A35n3
  have z_A18n4 : A18n4 = upA A35n3 10 1 (-1) := e_A18n4
  have z_A35n5 : A35n5 = upA A18n4 11 1 (4) := e_A35n5
  have z_A18n6 : A18n6 = upA A35n5 10 2 (-1) := e_A18n6
  have z_A35n7 : A35n7 = upA A18n6 11 2 (8) := e_A35n7
  have hA10 : A35n7 10 0 = -1 ∧ A35n7 10 1 = -1 ∧ A35n7 10 2 = -1 := ⟨by rw [z_A35n7, upA_ne (by decide), z_A18n6, upA_same, pk_un (by decide), z_A35n5, upA_ne (by decide), z_A18n4, upA_same, pk_un (by decide), z_A35n3, upA_ne (by decide), z_A18n2, upA_same, pk_us], by rw [z_A35n7, upA_ne (by decide), z_A18n6, upA_same, pk_un (by decide), z_A35n5, upA_ne (by decide), z_A18n4, upA_same, pk_us], by rw [z_A35n7, upA_ne (by decide), z_A18n6, upA_same, pk_us]⟩
  have hA11 : LatM A35n7 (1, 4, 8) := ⟨by rw [z_A35n7, upA_same, pk_un (by decide), z_A18n6, upA_ne (by decide), z_A35n5, upA_same, pk_un (by decide), z_A18n4, upA_ne (by decide), z_A35n3, upA_same, pk_us]; rfl, by rw [z_A35n7, upA_same, pk_un (by decide), z_A18n6, upA_ne (by decide), z_A35n5, upA_same, pk_us]; rfl, by rw [z_A35n7, upA_same, pk_us]; rfl⟩
  have FA_A35n7 : FaS AR A35n7 (fun b => 8 ≤ b ∧ b ≤ 11) := (((((((FA_AR).ast z_A18n2 (by omega)).ast z_A35n3 (by omega)).ast z_A18n4 (by omega)).ast z_A35n5 (by omega)).ast z_A18n6 (by omega)).ast z_A35n7 (by omega))
  clear e_A18n2 z_A18n2 e_A35n3 z_A35n3 e_A18n4 z_A18n4 e_A35n5 z_A35n5 e_A18n6 z_A18n6 e_A35n7 z_A35n7
  refine WX.keep (y := 205) [0] (show ([0, 1] : List Nat).Nodup by decide) rfl ?_
  refine WX.s1 rfl rfl ?_
  refine WX.mgetK (x := 1) rfl hm M_h35n7 rfl K_I2n1_9 ?_
  refine WX.if_ rfl (fun c_46 => ?_) (fun c_46 => absurd (by decide) c_46)
  clear c_46
  refine WX.s1 rfl rfl ?_
  refine WX.s1 (L' := [(0, .ref m), (1, .int 0)]) rfl rfl ?_
  have lp : ∀ (t i : Nat) (hL : Nat → aE) (IL : Nat → Int32) (AL : Nat → Nat → Int32), i + t = 256 → Fr h hL (inM m) → MAt hL m IL AL LN → Fi I IL (fun f => f = 15) → FaS AR AL (fun b => 8 ≤ b ∧ b ≤ 11) → IL 15 = nI (mxF L i) → IL 9 = 1 → (∀ j, j < i → AL 8 j = nI (L j)) → WX (lk tX12_beginFrame) (mM d) Ψ 52 [(0, .ref m), (1, .int (nI i))] [] (n, s, hL) := by
    clear M_h35n7 FR_h35n7 hA10 hA11
    intro t
    induction t with
    | zero =>
      intro i hL IL AL ht2 FR_hL M_hL FI_IL FA_AL K_IL_15 K_IL_9 hInv
      obtain rfl : i = 256 := by omega
      rw [ht] at K_IL_15
      refine WX.s1 rfl rfl ?_
      refine WX.s1 rfl rfl ?_
      refine WX.icmp rfl (fun c_56 => ?_) (fun c_56 => absurd ((nI_leI (a := 256) (b := 256) (by omega) (by omega)).mpr (by omega)) c_56)
      clear c_56
      obtain ⟨B1_, eB1⟩ : ∃ B, B = AL := ⟨_, rfl⟩
      rw [← eB1] at M_hL FA_AL hInv
      have FA_B1_ := FA_AL
      have q8 := hInv
      clear FA_AL hInv eB1
      refine WX.keep (y := 205) [0] (show ([0, 1] : List Nat).Nodup by decide) rfl ?_
      refine WX.s1 rfl rfl ?_
      refine WX.s1 (L' := [(0, .ref m), (1, .int 0)]) rfl rfl ?_
      have lp109 : ∀ (t i : Nat) (hL : Nat → aE) (AL : Nat → Nat → Int32), i + t = 192 → MAt hL m IL AL LN → Fr h hL (inM m) → FaS B1_ AL (fun b => b = 9) → (∀ j, j < i → AL 9 j = B1_ 5 j) → WX (lk tX12_beginFrame) (mM d) Ψ 109 [(0, .ref m), (1, .int (nI i))] [] (n, s, hL) := by
        clear M_hL FR_hL
        intro t
        induction t with
        | zero =>
          intro i hL AL ht M_hL FR_hL faL q1
          obtain rfl : i = 192 := by omega
          have FA_AL : FaS AR AL (fun b => 8 ≤ b ∧ b ≤ 11) := (FA_B1_).ztr ((faL).mono (fun x hx => by omega))
          refine WX.s1 rfl rfl ?_
          refine WX.s1 rfl rfl ?_
          refine WX.icmp rfl (fun c_113 => ?_) (fun c_113 => absurd ((nI_leI (a := 192) (b := 192) (by omega) (by omega)).mpr (by omega)) c_113)
          clear c_113
          obtain ⟨B2_, eB2⟩ : ∃ B, B = AL := ⟨_, rfl⟩
          rw [← eB2] at M_hL FA_AL faL q1
          have FA_B2_ := FA_AL
          have r8 : ∀ j, j < 256 → B2_ 8 j = nI (L j) := fun j hj => by rw [faL 8 (by decide)]; exact q8 j hj
          have r9 : ∀ j, j < 192 → B2_ 9 j = AR 5 j := fun j hj => by rw [q1 j hj, FA_B1_ 5 (by decide)]
          clear FA_AL faL eB2 q1 q8
          refine WX.keep (y := 205) [0] (show ([0, 1] : List Nat).Nodup by decide) rfl ?_
          refine WX.s1 rfl rfl ?_
          refine WX.s1 (L' := [(0, .ref m), (1, .int 0)]) rfl rfl ?_
          have lp136 : ∀ (t i : Nat) (hL : Nat → aE) (AL : Nat → Nat → Int32), i + t = 3 → MAt hL m IL AL LN → Fr h hL (inM m) → FaS B2_ AL (fun b => b = 10 ∨ b = 11) → (∀ j, j < i → AL 10 j = B2_ 6 j ∧ AL 11 j = B2_ 7 j) → WX (lk tX12_beginFrame) (mM d) Ψ 136 [(0, .ref m), (1, .int (nI i))] [] (n, s, hL) := by
            clear M_hL FR_hL
            intro t
            induction t with
            | zero =>
              intro i hL AL ht M_hL FR_hL faL q3
              obtain rfl : i = 3 := by omega
              have FA_AL : FaS AR AL (fun b => 8 ≤ b ∧ b ≤ 11) := (FA_B2_).ztr ((faL).mono (fun x hx => by omega))
              refine WX.s1 rfl rfl ?_
              refine WX.s1 rfl rfl ?_
              refine WX.icmp rfl (fun c_138 => ?_) (fun c_138 => absurd ((nI_leI (a := 3) (b := 3) (by omega) (by omega)).mpr (by omega)) c_138)
              clear c_138
              have u10 : ∀ j, j < 3 → AL 10 j = AR 6 j ∧ AL 11 j = AR 7 j := fun j hj => by have z := q3 j hj; rw [FA_B2_ 6 (by decide), FA_B2_ 7 (by decide)] at z; exact z
              have u9 : ∀ j, j < 192 → AL 9 j = AR 5 j := fun j hj => by rw [faL 9 (by decide)]; exact r9 j hj
              refine WX.ret0 rfl (kk hL IL AL FR_hL M_hL FI_IL FA_AL ⟨⟨K_IL_15, fun s hs => by rw [faL 8 (by decide)]; exact r8 s hs⟩, ⟨(u10 0 (by decide)).1.trans hD.2.1.1, fun s hs => (u9 _ (by omega)).trans (hD.2.1.2 s hs)⟩, ⟨(u10 1 (by decide)).1.trans hD.2.2.1.1, fun s hs => (u9 _ (by omega)).trans (hD.2.2.1.2 s hs)⟩, ⟨(u10 2 (by decide)).1.trans hD.2.2.2.1.1, fun s hs => (u9 _ (by omega)).trans (hD.2.2.2.1.2 s hs)⟩, ⟨(u10 0 (by decide)).2.trans hD.2.2.2.2.1, (u10 1 (by decide)).2.trans hD.2.2.2.2.2.1, (u10 2 (by decide)).2.trans hD.2.2.2.2.2.2⟩⟩)
            | succ t ih =>
              intro i hL AL ht M_hL FR_hL faL hInv
              refine WX.s1 rfl rfl ?_
              refine WX.s1 rfl rfl ?_
              refine WX.icmp rfl (fun c_138 => absurd c_138 (fun zz_ => absurd ((nI_leI (a := 3) (b := i) (by omega) (by omega)).mp zz_) (Nat.not_le.mpr (by omega)))) (fun c_138 => ?_)
              clear c_138
              refine WX.s1 rfl rfl ?_
              refine WX.mget rfl hm M_hL rfl ?_
              refine WX.s1 rfl rfl ?_
              refine WX.s1 rfl rfl ?_
              refine WX.mget rfl hm M_hL rfl ?_
              refine WX.s1 rfl rfl ?_
              refine WX.mald (c := 6) rfl hm M_hL (by decide) (by decide) (by decide) (by decide) (vp_in_nI (N := 3) (by omega) (by decide)) ?_
              rw [nI_clamp (by omega), faL 6 (by decide)]
              refine WX.mast (c := 10) rfl hm M_hL (by decide) (by decide) (by decide) (by decide) (vp_in_nI (N := 3) (by omega) (by decide)) (fun h152n8 A152n8 e_A152n8 M_h152n8 frh152n8 => ?_)
              try dsimp only at e_A152n8
              have FR_h152n8 := (FR_hL).ztr frh152n8
              clear M_hL FR_hL frh152n8
              refine WX.s1 rfl rfl ?_
              refine WX.mget rfl hm M_h152n8 rfl ?_
              refine WX.s1 rfl rfl ?_
              refine WX.s1 rfl rfl ?_
              refine WX.mget rfl hm M_h152n8 rfl ?_
              refine WX.s1 rfl rfl ?_
              refine WX.mald (c := 7) rfl hm M_h152n8 (by decide) (by decide) (by decide) (by decide) (vp_in_nI (N := 3) (by omega) (by decide)) ?_
              rw [nI_clamp (by omega), e_A152n8, upA_ne (by decide), faL 7 (by decide)]
              refine WX.mast (c := 11) rfl hm M_h152n8 (by decide) (by decide) (by decide) (by decide) (vp_in_nI (N := 3) (by omega) (by decide)) (fun h164n9 A164n9 e_A164n9 M_h164n9 frh164n9 => ?_)
              try dsimp only at e_A164n9
              have FR_h164n9 := (FR_h152n8).ztr frh164n9
              clear M_h152n8 FR_h152n8 frh164n9
              refine WX.s1 (L' := [(0, .ref m), (1, .int ((nI i) + 1))]) rfl rfl ?_
              rw [show ((nI i) + 1) = nI (i + 1) from nI_add i 1]
              refine WX.s1 rfl rfl ?_
              rw [nI_clamp (by omega)] at e_A152n8
              rw [nI_clamp (by omega)] at e_A164n9
              refine ih (i + 1) h164n9 A164n9 (by omega) M_h164n9 FR_h164n9 (((faL).ast e_A152n8 (by omega)).ast e_A164n9 (by omega)) ?_
              intro j hj
              by_cases z : j = i
              · rw [z]; refine ⟨?_, ?_⟩
                · rw [e_A164n9, upA_ne (by decide), e_A152n8, upA_same, pk_us]
                · rw [e_A164n9, upA_same, pk_us]
              · have q := hInv j (by omega)
                refine ⟨?_, ?_⟩
                · rw [e_A164n9, upA_ne (by decide), e_A152n8, upA_same, pk_un z]; exact q.1
                · rw [e_A164n9, upA_same, pk_un z, e_A152n8, upA_ne (by decide)]; exact q.2
          exact lp136 3 0 hL B2_ (by omega) M_hL FR_hL FaS.rf (fun j hj => absurd hj (Nat.not_lt_zero j))
        | succ t ih =>
          intro i hL AL ht M_hL FR_hL faL hInv
          refine WX.s1 rfl rfl ?_
          refine WX.s1 rfl rfl ?_
          refine WX.icmp rfl (fun c_113 => absurd c_113 (fun zz_ => absurd ((nI_leI (a := 192) (b := i) (by omega) (by omega)).mp zz_) (Nat.not_le.mpr (by omega)))) (fun c_113 => ?_)
          clear c_113
          refine WX.s1 rfl rfl ?_
          refine WX.mget rfl hm M_hL rfl ?_
          refine WX.s1 rfl rfl ?_
          refine WX.s1 rfl rfl ?_
          refine WX.mget rfl hm M_hL rfl ?_
          refine WX.s1 rfl rfl ?_
          refine WX.mald (c := 5) rfl hm M_hL (by decide) (by decide) (by decide) (by decide) (vp_in_nI (N := 192) (by omega) (by decide)) ?_
          rw [nI_clamp (by omega), faL 5 (by decide)]
          refine WX.mast (c := 9) rfl hm M_hL (by decide) (by decide) (by decide) (by decide) (vp_in_nI (N := 192) (by omega) (by decide)) (fun h127n10 A127n10 e_A127n10 M_h127n10 frh127n10 => ?_)
          try dsimp only at e_A127n10
          have FR_h127n10 := (FR_hL).ztr frh127n10
          clear M_hL FR_hL frh127n10
          refine WX.s1 (L' := [(0, .ref m), (1, .int ((nI i) + 1))]) rfl rfl ?_
          rw [show ((nI i) + 1) = nI (i + 1) from nI_add i 1]
          refine WX.s1 rfl rfl ?_
          rw [nI_clamp (by omega)] at e_A127n10
          refine ih (i + 1) h127n10 A127n10 (by omega) M_h127n10 FR_h127n10 ((faL).ast e_A127n10 (by omega)) ?_
          intro j hj
          by_cases z : j = i
          · rw [z, e_A127n10, upA_same, pk_us]
          · rw [e_A127n10, upA_same, pk_un z]; exact hInv j (by omega)
      exact lp109 192 0 hL B1_ (by omega) M_hL FR_hL FaS.rf (fun j hj => absurd hj (Nat.not_lt_zero j))
    | succ t ih =>
      intro i hL IL AL ht2 FR_hL M_hL FI_IL FA_AL K_IL_15 K_IL_9 hInv
      have hmx : mxF L i ≤ 18 := mxF_le i (fun s hs => hL18 s (by omega))
      have hLi := hL18 i (by omega)
      refine WX.s1 rfl rfl ?_
      refine WX.s1 rfl rfl ?_
      refine WX.icmp rfl (fun c_56 => absurd c_56 (fun zz_ => absurd ((nI_leI (a := 256) (b := i) (by omega) (by omega)).mp zz_) (Nat.not_le.mpr (by omega)))) (fun c_56 => ?_)
      clear c_56
      refine WX.s1 rfl rfl ?_
      refine WX.mget rfl hm M_hL rfl ?_
      refine WX.s1 rfl rfl ?_
      refine WX.s1 rfl rfl ?_
      refine WX.mget rfl hm M_hL rfl ?_
      refine WX.s1 rfl rfl ?_
      refine WX.mald (c := 4) rfl hm M_hL (by decide) (by decide) (by decide) (by decide) (vp_in_nI (N := 256) (by omega) (by decide)) ?_
      rw [nI_clamp (by omega), FA_AL 4 (by decide), hD.1 i (by omega)]
      refine WX.mast (c := 8) rfl hm M_hL (by decide) (by decide) (by decide) (by decide) (vp_in_nI (N := 256) (by omega) (by decide)) (fun h70n11 A70n11 e_A70n11 M_h70n11 frh70n11 => ?_)
      try dsimp only at e_A70n11
      have FR_h70n11 := (FR_hL).ztr frh70n11
      clear M_hL FR_hL frh70n11
      rw [nI_clamp (by omega)] at e_A70n11
      have h8i : A70n11 8 i = nI (L i) := by rw [e_A70n11, upA_same, pk_us]
      refine WX.s1 rfl rfl ?_
      refine WX.s1 rfl rfl ?_
      refine WX.mget rfl hm M_h70n11 rfl ?_
      refine WX.s1 rfl rfl ?_
      refine WX.mald (c := 8) rfl hm M_h70n11 (by decide) (by decide) (by decide) (by decide) (vp_in_nI (N := 256) (by omega) (by decide)) ?_
      rw [nI_clamp (by omega), h8i]
      refine WX.s1 rfl rfl ?_
      refine WX.mgetK (x := (nI (mxF L i))) rfl hm M_h70n11 rfl K_IL_15 ?_
      refine WX.icmp rfl (fun c_82 => ?_) (fun c_82 => ?_)
      · skip
        have n_82 : (L i) ≤ (mxF L i) := (nI_leI (a := L i) (b := mxF L i) (by omega) (by omega)).mp c_82
        refine WX.s1 rfl rfl ?_
        refine WX.mgetK (x := (nI (mxF L i))) rfl hm M_h70n11 rfl K_IL_15 ?_
        refine WX.mput rfl hm M_h70n11 (rfl) (by decide) (fun _ => rfl) (fun h98n12 I98n12 e_I98n12 M_h98n12 frh98n12 => ?_)
        have FR_h98n12 := (FR_h70n11).ztr frh98n12
        have FI_I98n12 : Fi I I98n12 (fun f => f = 15) := (FI_IL).zup e_I98n12 (by first | exact rfl | decide | omega)
        have K_I98n12_9 : I98n12 9 = 1 := by rw [e_I98n12]; exact (pk_un (by decide)).trans K_IL_9
        have K_I98n12_15 : I98n12 15 = (nI (mxF L i)) := by rw [e_I98n12]; exact pk_us
        clear M_h70n11 FR_h70n11 FI_IL e_I98n12 frh98n12 K_IL_15 K_IL_9
        refine WX.s1 (L' := [(0, .ref m), (1, .int ((nI i) + 1))]) rfl rfl ?_
        rw [show ((nI i) + 1) = nI (i + 1) from nI_add i 1]
        refine WX.s1 rfl rfl ?_
        refine ih (i + 1) h98n12 I98n12 A70n11 (by omega) FR_h98n12 M_h98n12 FI_I98n12 ((FA_AL).ast e_A70n11 (by omega)) ?_ K_I98n12_9 ?_
        · rw [K_I98n12_15]; exact congrArg nI (show _ = max (mxF L i) (L i) from (Nat.max_eq_left (by omega)).symm)
        · intro j hj
          by_cases z : j = i
          · rw [z]; exact h8i
          · rw [e_A70n11, upA_same, pk_un z]; exact hInv j (by omega)
      · skip
        have n_82 : (mxF L i) < (L i) := Nat.lt_of_not_le (fun zz_ => c_82 ((nI_leI (a := L i) (b := mxF L i) (by omega) (by omega)).mpr zz_))
        refine WX.s1 rfl rfl ?_
        refine WX.mget rfl hm M_h70n11 rfl ?_
        refine WX.s1 rfl rfl ?_
        refine WX.mald (c := 8) rfl hm M_h70n11 (by decide) (by decide) (by decide) (by decide) (vp_in_nI (N := 256) (by omega) (by decide)) ?_
        rw [nI_clamp (by omega), h8i]
        refine WX.s1 rfl rfl ?_
        refine WX.mput rfl hm M_h70n11 (rfl) (by decide) (fun _ => rfl) (fun h98n13 I98n13 e_I98n13 M_h98n13 frh98n13 => ?_)
        have FR_h98n13 := (FR_h70n11).ztr frh98n13
        have FI_I98n13 : Fi I I98n13 (fun f => f = 15) := (FI_IL).zup e_I98n13 (by first | exact rfl | decide | omega)
        have K_I98n13_9 : I98n13 9 = 1 := by rw [e_I98n13]; exact (pk_un (by decide)).trans K_IL_9
        have K_I98n13_15 : I98n13 15 = (nI (L i)) := by rw [e_I98n13]; exact pk_us
        clear M_h70n11 FR_h70n11 FI_IL e_I98n13 frh98n13 K_IL_15 K_IL_9
        refine WX.s1 (L' := [(0, .ref m), (1, .int ((nI i) + 1))]) rfl rfl ?_
        rw [show ((nI i) + 1) = nI (i + 1) from nI_add i 1]
        refine WX.s1 rfl rfl ?_
        refine ih (i + 1) h98n13 I98n13 A70n11 (by omega) FR_h98n13 M_h98n13 FI_I98n13 ((FA_AL).ast e_A70n11 (by omega)) ?_ K_I98n13_9 ?_
        · rw [K_I98n13_15]; exact congrArg nI (show _ = max (mxF L i) (L i) from (Nat.max_eq_right (by omega)).symm)
        · intro j hj
          by_cases z : j = i
          · rw [z]; exact h8i
          · rw [e_A70n11, upA_same, pk_un z]; exact hInv j (by omega)
  exact lp 256 0 h35n7 I2n1 A35n7 (by omega) FR_h35n7 M_h35n7 FI_I2n1 FA_A35n7 K_I2n1_15 K_I2n1_9 (fun j hj => absurd hj (Nat.not_lt_zero j))
theorem m_begF {d n s : Nat} {h : Nat → aE} {m : Nat} {I : Nat → Int32} {AR : Nat → Nat → Int32} {LN : Nat → Int64} {T : PkS} (hm : m + 43 < n) (M_h : MAt h m I AR LN) (hO : PkOk T) (hD : DicM I AR T) {Ψ : Option Value → aH → Prop} (kk : ∀ h' I' A', Fr h h' (inM m) → MAt h' m I' A' LN → Fi I I' (fun f => f = 15) → FaS AR A' (fun b => 8 ≤ b ∧ b ≤ 11) → RefU I' A' T → Ψ none (n, s, h')) : WO (mM (d + 1)) 205 [.ref m] (n, s, h) Ψ := by
  rcases hD with ⟨a, b⟩ | ⟨a, L, t, t1, t2, t3, lt, b, c, s, hs, d⟩
  · subst b
    exact m_begF0 hm M_h a kk
  · subst b
    have hl : LenOk L t := hO.1
    refine m_begF1 hm M_h (fun s hs => Nat.le_trans (hl.2.2.1 s hs) (Nat.le_trans hl.2.1 (by decide))) c ?_ a kk
    exact Nat.le_antisymm (mxF_le 256 hl.2.2.1) (d ▸ mxF_ge 256 hs)
