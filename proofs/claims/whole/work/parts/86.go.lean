/-! going over the data: the literals and the sequences -/
abbrev GSt : Type := Nat × Nat × List Nat × List (Nat × Nat × Nat)
def gStep (D : Nat → Nat) (way least win e : Nat) (x : GSt) : GSt := if x.1 < e then (if tk D way least win e x.1 = 0 then (x.1 + 1, x.2.1 + 1, x.2.2.1 ++ [D x.1], x.2.2.2) else (x.1 + tk D way least win e x.1, 0, x.2.2.1, x.2.2.2 ++ [(x.2.1, tk D way least win e x.1, x.1 - (mAt D (wy way) least win e x.1).2)])) else x
def goN (D : Nat → Nat) (way least win e f : Nat) : Nat → GSt
  | 0 => (f, 0, [], [])
  | k + 1 => gStep D way least win e (goN D way least win e f k)
theorem goN_fix {D : Nat → Nat} {way least win e f k : Nat} (h : e ≤ (goN D way least win e f k).1) : ∀ j, goN D way least win e f (k + j) = goN D way least win e f k := by
  intro j
  induction j with
  | zero => rfl
  | succ j ih =>
    show gStep D way least win e (goN D way least win e f (k + j)) = _
    rw [ih]
    exact if_neg (by omega)
theorem goN_end {D : Nat → Nat} {way least win e f a b : Nat} (ha : e ≤ (goN D way least win e f a).1) (hb : e ≤ (goN D way least win e f b).1) : goN D way least win e f a = goN D way least win e f b := by
  rcases Nat.le_total a b with z | z
  · obtain ⟨j, rfl⟩ : ∃ j, b = a + j := ⟨b - a, by omega⟩
    exact (goN_fix ha j).symm
  · obtain ⟨j, rfl⟩ : ∃ j, a = b + j := ⟨a - b, by omega⟩
    exact goN_fix hb j
theorem mAt_ls {D : Nat → Nat} {way least win e p : Nat} (hl : 1 ≤ least) (h : (mAt D way least win e p).1 ≠ 0) : least ≤ (mAt D way least win e p).1 ∧ (mAt D way least win e p).2 < p := by
  have := mFold_at D (way := way) (least := least) (e := e) (p := p) (j := min p win) hl (Nat.min_le_left _ _) h
  exact ⟨this.2.2, this.2.1⟩
theorem tk_cases (D : Nat → Nat) (way least win e p : Nat) : tk D way least win e p = 0 ∨ tk D way least win e p = (mAt D (wy way) least win e p).1 := by
  unfold tk
  by_cases z : way = 3 ∧ (mAt D (wy way) least win e p).1 < (mAt D (wy way) least win e (p + 1)).1
  · rw [if_pos z]; exact Or.inl rfl
  · rw [if_neg z]; exact Or.inr rfl
theorem tk_le (D : Nat → Nat) (way least win e p : Nat) : tk D way least win e p ≤ e - p := by
  have := mAt_le D (wy way) least win e p
  rcases tk_cases D way least win e p with z | z <;> omega
theorem tk_ls {D : Nat → Nat} {way least win e p : Nat} (hl : 1 ≤ least) (h : tk D way least win e p ≠ 0) : least ≤ tk D way least win e p ∧ (mAt D (wy way) least win e p).2 < p := by
  rcases tk_cases D way least win e p with z | z
  · exact absurd z h
  · rw [z] at h ⊢
    exact mAt_ls hl h
def GOk (f e : Nat) (x : GSt) : Prop := f ≤ x.1 ∧ x.1 ≤ e ∧ f + x.2.1 ≤ x.1 ∧ f + x.2.2.1.length + 3 * x.2.2.2.length ≤ x.1
theorem goN_ok {D : Nat → Nat} {way least win e f : Nat} (hl : 3 ≤ least) (hf : f ≤ e) : ∀ k, GOk f e (goN D way least win e f k) := by
  intro k
  induction k with
  | zero => exact ⟨Nat.le_refl _, hf, Nat.le_refl _, Nat.le_refl _⟩
  | succ k ih =>
    show GOk f e (gStep D way least win e (goN D way least win e f k))
    obtain ⟨h1, h2, h3, h4⟩ := ih
    unfold gStep
    by_cases q : (goN D way least win e f k).1 < e
    · rw [if_pos q]
      by_cases z : tk D way least win e (goN D way least win e f k).1 = 0
      · rw [if_pos z]
        refine ⟨?_, ?_, ?_, ?_⟩
        · show f ≤ (goN D way least win e f k).1 + 1; omega
        · show (goN D way least win e f k).1 + 1 ≤ e; omega
        · show f + ((goN D way least win e f k).2.1 + 1) ≤ (goN D way least win e f k).1 + 1; omega
        · show f + ((goN D way least win e f k).2.2.1 ++ [_]).length + 3 * (goN D way least win e f k).2.2.2.length ≤ (goN D way least win e f k).1 + 1
          rw [List.length_append, List.length_singleton]; omega
      · rw [if_neg z]
        have a1 := tk_le D way least win e (goN D way least win e f k).1
        have a2 := (tk_ls (by omega) z).1
        refine ⟨?_, ?_, ?_, ?_⟩
        · show f ≤ (goN D way least win e f k).1 + _; omega
        · show (goN D way least win e f k).1 + _ ≤ e; omega
        · show f + 0 ≤ (goN D way least win e f k).1 + _; omega
        · show f + (goN D way least win e f k).2.2.1.length + 3 * ((goN D way least win e f k).2.2.2 ++ [_]).length ≤ (goN D way least win e f k).1 + _
          rw [List.length_append, List.length_singleton]; omega
    · rw [if_neg q]
      exact ⟨h1, h2, h3, h4⟩
def numS (x : List Nat × (Nat × Nat × Nat)) (q : Nat × Nat × Nat) : List Nat × (Nat × Nat × Nat) := (x.1 ++ [(tnum x.2 q.2.2 (if q.1 = 0 then 1 else 0)).1], (tnum x.2 q.2.2 (if q.1 = 0 then 1 else 0)).2)
def numF (l : Nat × Nat × Nat) (qs : List (Nat × Nat × Nat)) : List Nat × (Nat × Nat × Nat) := qs.foldl numS ([], l)
theorem numF_snoc (l : Nat × Nat × Nat) (qs : List (Nat × Nat × Nat)) (q : Nat × Nat × Nat) : numF l (qs ++ [q]) = numS (numF l qs) q := by
  unfold numF
  rw [List.foldl_append]
  rfl
def ColP (h : Nat → aE) (j k l NB NW : Nat) (B sy wd : Nat → Nat) : Prop := ∃ bA wA : Nat → Int32, h (aBig + j) = .inl (1, NB, .inl bA) ∧ h (aBig + k) = .inl (1, NW, .inl wA) ∧ (∀ i, i < NB → bA i = nI (B i) ∧ B i < 2 ^ 31) ∧ (∀ i, i < NW → wA i = nI (wd i)) ∧ (∀ v, v ≤ 16003 → IsSy B NB v (sy v) ∧ sy v ≤ l ∧ sy v < NW) ∧ NB < 2 ^ 20 ∧ NW < 2 ^ 20 ∧ l < 1000 ∧ (∀ s, wd s ≤ 16) ∧ j < 10 ∧ k < 10
theorem ColP.zfr {h h1 : Nat → aE} {A : Nat → Prop} {j k l NB NW : Nat} {B sy wd : Nat → Nat} (p : ColP h j k l NB NW B sy wd) (f : Fr h h1 A) (q1 : ¬ A (aBig + j)) (q2 : ¬ A (aBig + k)) : ColP h1 j k l NB NW B sy wd := by
  obtain ⟨bA, wA, a1, a2, a3⟩ := p
  exact ⟨bA, wA, (f _ q1).trans a1, (f _ q2).trans a2, a3⟩
theorem ColA.zfr {h h1 : Nat → aE} {A : Nat → Prop} {c l : Nat} {sy wd : Nat → Nat} {vs : List Nat} (p : ColA h c l sy wd vs) (f : Fr h h1 A) (q1 : ¬ A (c + 1)) (q2 : ¬ A (c + 2)) (q3 : ¬ A (c + 5)) : ColA h1 c l sy wd vs := by
  obtain ⟨sA, vA, cA, a1, a2, a3, a4⟩ := p
  exact ⟨sA, vA, cA, (f _ q1).trans a1, (f _ q2).trans a2, (f _ q3).trans a3, a4⟩
theorem LitA.zfr {h h1 : Nat → aE} {A : Nat → Prop} {ls : List Nat} (p : LitA h ls) (f : Fr h h1 A) (q1 : ¬ A 90) (q2 : ¬ A 91) : LitA h1 ls := by
  obtain ⟨lA, cA, a1, a2, a3⟩ := p
  exact ⟨lA, cA, (f _ q1).trans a1, (f _ q2).trans a2, a3⟩
theorem LatA.zfr {h h1 : Nat → aE} {A : Nat → Prop} {a : Nat} {l : Nat × Nat × Nat} (p : LatA h a l) (f : Fr h h1 A) (q1 : ¬ A a) : LatA h1 a l := by
  obtain ⟨g, a1, a2⟩ := p
  exact ⟨g, (f _ q1).trans a1, a2⟩
theorem x_kaddP {d n s : Nat} {h : Nat → aE} {c j k l NB NW cho : Nat} {gr mo bi ob sta : Int32} {B sy wd : Nat → Nat} {vs : List Nat} {v : Nat} (hc : c + 26 < n) (hnb : n < aBig) (P : ColP h j k l NB NW B sy wd) (hv : v ≤ 16003) (hlen : vs.length < 2667) (hA : ColA h c l sy wd vs) (F : h c = .inr (1, [.ref (aBig + j), .ref (aBig + k), .int gr, .ref (c + 1), .ref (c + 2), .ref (c + 5), .int (nI vs.length), .int (nI (colF sy wd vs).2.1), .int (nI (colF sy wd vs).2.2), .ref (c + 6), .ref (c + 13), .ref (c + 20), .ref cho, .ref (c + 3), .int mo, .int bi, .int ob, .int sta])) {Ψ : Option Value → aH → Prop} (kk : ∀ h', Fr h h' (fun j => j = c ∨ j = c + 1 ∨ j = c + 2 ∨ j = c + 5) → h' c = .inr (1, [.ref (aBig + j), .ref (aBig + k), .int gr, .ref (c + 1), .ref (c + 2), .ref (c + 5), .int (nI (vs ++ [v]).length), .int (nI (colF sy wd (vs ++ [v])).2.1), .int (nI (colF sy wd (vs ++ [v])).2.2), .ref (c + 6), .ref (c + 13), .ref (c + 20), .ref cho, .ref (c + 3), .int mo, .int bi, .int ob, .int sta]) → ColA h' c l sy wd (vs ++ [v]) → Ψ none (n, s, h')) : WO (mM (d + 1)) 11 [.ref c, .int (nI v)] (n, s, h) Ψ := by
  obtain ⟨bA, wA, b1, b2, b3, b4, b5, b6, b7, b8, b9, b10, b11⟩ := P
  obtain ⟨s1, s2, s3⟩ := b5 v hv
  exact x_kadd hc hnb (Nat.le_add_right _ _) (Nat.add_lt_add_left b10 _) (Nat.le_add_right _ _) (Nat.add_lt_add_left b11 _) b3 b6 b4 b7 s1 s2 s3 b8 (by omega) hlen b9 hA F b1 b2 kk
set_option maxRecDepth 20000 in
theorem x_addSeq {d n s : Nat} {h : Nat → aE} {fu fw fl fwi fe fap fal fad : Int32}{B1 sy1 wd1 B2 sy2 wd2 B3 sy3 wd3 : Nat → Nat} {NB1 NW1 NB2 NW2 NB3 NW3 : Nat}{cho1 cho2 cho3 : Nat} {gr1 mo1 bi1 ob1 sta1 gr2 mo2 bi2 ob2 sta2 gr3 mo3 bi3 ob3 sta3 : Int32} {vs1 vs2 vs3 : List Nat} {si ln di cnt : Nat} {lt : Nat × Nat × Nat} (hn : 190 ≤ n) (hnb : n < aBig) (S1 : ColP h 3 4 35 NB1 NW1 B1 sy1 wd1) (S2 : ColP h 5 6 31 NB2 NW2 B2 sy2 wd2) (S3 : ColP h 7 8 52 NB3 NW3 B3 sy3 wd3) (hsi : si ≤ 16000) (hln : ln ≤ 16000) (hd1 : 1 ≤ di) (hd2 : di ≤ 16000) (hlt : LatOk lt) (hl1 : vs1.length < 2667) (hl2 : vs2.length < 2667) (hl3 : vs3.length < 2667) (F_h_81 : h 81 = .inr (6, [.ref 82, .ref 89, .ref 108, .ref 135, .ref 162, .ref 86, .ref 87, .int (nI cnt), .ref 88])) (F_h_82 : h 82 = .inr (3, [.ref 83, .int fu, .ref 84, .ref 85, .int fw, .int fl, .int fwi, .int fe, .int (nI ln), .int (nI di), .int fap, .int fal, .int fad])) (F_h_108 : h 108 = .inr (1, [.ref (aBig + 3), .ref (aBig + 4), .int gr1, .ref 109, .ref 110, .ref 113, .int (nI vs1.length), .int (nI (colF sy1 wd1 vs1).2.1), .int (nI (colF sy1 wd1 vs1).2.2), .ref 114, .ref 121, .ref 128, .ref cho1, .ref 111, .int mo1, .int bi1, .int ob1, .int sta1])) (F_h_135 : h 135 = .inr (1, [.ref (aBig + 5), .ref (aBig + 6), .int gr2, .ref 136, .ref 137, .ref 140, .int (nI vs2.length), .int (nI (colF sy2 wd2 vs2).2.1), .int (nI (colF sy2 wd2 vs2).2.2), .ref 141, .ref 148, .ref 155, .ref cho2, .ref 138, .int mo2, .int bi2, .int ob2, .int sta2])) (F_h_162 : h 162 = .inr (1, [.ref (aBig + 7), .ref (aBig + 8), .int gr3, .ref 163, .ref 164, .ref 167, .int (nI vs3.length), .int (nI (colF sy3 wd3 vs3).2.1), .int (nI (colF sy3 wd3 vs3).2.2), .ref 168, .ref 175, .ref 182, .ref cho3, .ref 165, .int mo3, .int bi3, .int ob3, .int sta3])) (P_h_k1 : ColA h 108 35 sy1 wd1 vs1) (P_h_k2 : ColA h 135 31 sy2 wd2 vs2) (P_h_k3 : ColA h 162 52 sy3 wd3 vs3) (P_h_la : LatA h 87 lt) {Ψ : Option Value → aH → Prop} (kk : ∀ h', Fr h h' (fun j => j = 81 ∨ j = 87 ∨ (108 ≤ j ∧ j ≤ 110) ∨ j = 113 ∨ (135 ≤ j ∧ j ≤ 137) ∨ j = 140 ∨ (162 ≤ j ∧ j ≤ 164) ∨ j = 167) → h' 81 = .inr (6, [.ref 82, .ref 89, .ref 108, .ref 135, .ref 162, .ref 86, .ref 87, .int (nI (cnt + 1)), .ref 88]) → h' 108 = .inr (1, [.ref (aBig + 3), .ref (aBig + 4), .int gr1, .ref 109, .ref 110, .ref 113, .int (nI (vs1 ++ [si]).length), .int (nI (colF sy1 wd1 (vs1 ++ [si])).2.1), .int (nI (colF sy1 wd1 (vs1 ++ [si])).2.2), .ref 114, .ref 121, .ref 128, .ref cho1, .ref 111, .int mo1, .int bi1, .int ob1, .int sta1]) → ColA h' 108 35 sy1 wd1 (vs1 ++ [si]) → h' 135 = .inr (1, [.ref (aBig + 5), .ref (aBig + 6), .int gr2, .ref 136, .ref 137, .ref 140, .int (nI (vs2 ++ [(tnum lt di (if si = 0 then 1 else 0)).1]).length), .int (nI (colF sy2 wd2 (vs2 ++ [(tnum lt di (if si = 0 then 1 else 0)).1])).2.1), .int (nI (colF sy2 wd2 (vs2 ++ [(tnum lt di (if si = 0 then 1 else 0)).1])).2.2), .ref 141, .ref 148, .ref 155, .ref cho2, .ref 138, .int mo2, .int bi2, .int ob2, .int sta2]) → ColA h' 135 31 sy2 wd2 (vs2 ++ [(tnum lt di (if si = 0 then 1 else 0)).1]) → h' 162 = .inr (1, [.ref (aBig + 7), .ref (aBig + 8), .int gr3, .ref 163, .ref 164, .ref 167, .int (nI (vs3 ++ [ln]).length), .int (nI (colF sy3 wd3 (vs3 ++ [ln])).2.1), .int (nI (colF sy3 wd3 (vs3 ++ [ln])).2.2), .ref 168, .ref 175, .ref 182, .ref cho3, .ref 165, .int mo3, .int bi3, .int ob3, .int sta3]) → ColA h' 162 52 sy3 wd3 (vs3 ++ [ln]) → LatA h' 87 (tnum lt di (if si = 0 then 1 else 0)).2 → Ψ none (n, s, h')) : WO (mM (d + 3)) 72 [.ref 81, .int (nI si)] (n, s, h) Ψ := by
  refine WO.of (Nat.le_of_ble_eq_true rfl) ?_
  have FR_h : Fr h h (fun j => j = 81 ∨ j = 87 ∨ (108 ≤ j ∧ j ≤ 110) ∨ j = 113 ∨ (135 ≤ j ∧ j ≤ 137) ∨ j = 140 ∨ (162 ≤ j ∧ j ≤ 164) ∨ j = 167) := Fr.rf
  show WX (lk tX6_addSequence) (mM (d + 2)) Ψ 0 [(0, .ref 81), (1, .int (nI si))] [] (n, s, h)
  refine WX.s1 rfl rfl ?_
  refine WX.get1 (fs := [.ref 82, .ref 89, .ref 108, .ref 135, .ref 162, .ref 86, .ref 87, .int (nI cnt), .ref 88]) rfl (ltN hn (by decide)) (F_h_81) rfl ?_
  refine WX.s1 rfl rfl ?_
  refine WX.callC (vs := [.ref 108, .int (nI si)]) rfl rfl rfl (Nat.le_of_ble_eq_true rfl) (rcv_ok (ltN hn (by decide)) F_h_108) ?_
  refine x_kaddP (ltN hn (by decide)) hnb (S1.zfr FR_h (by decide) (by decide)) (by omega) hl1 P_h_k1 F_h_108 (fun h5 fr F_h5_108 P_h5_k1 => ?_)
  have F_h5_81 : h5 81 = .inr (6, [.ref 82, .ref 89, .ref 108, .ref 135, .ref 162, .ref 86, .ref 87, .int (nI cnt), .ref 88]) := (fr _ (by first | decide | omega)).trans F_h_81
  have F_h5_82 : h5 82 = .inr (3, [.ref 83, .int fu, .ref 84, .ref 85, .int fw, .int fl, .int fwi, .int fe, .int (nI ln), .int (nI di), .int fap, .int fal, .int fad]) := (fr _ (by first | decide | omega)).trans F_h_82
  have F_h5_135 : h5 135 = .inr (1, [.ref (aBig + 5), .ref (aBig + 6), .int gr2, .ref 136, .ref 137, .ref 140, .int (nI vs2.length), .int (nI (colF sy2 wd2 vs2).2.1), .int (nI (colF sy2 wd2 vs2).2.2), .ref 141, .ref 148, .ref 155, .ref cho2, .ref 138, .int mo2, .int bi2, .int ob2, .int sta2]) := (fr _ (by first | decide | omega)).trans F_h_135
  have F_h5_162 : h5 162 = .inr (1, [.ref (aBig + 7), .ref (aBig + 8), .int gr3, .ref 163, .ref 164, .ref 167, .int (nI vs3.length), .int (nI (colF sy3 wd3 vs3).2.1), .int (nI (colF sy3 wd3 vs3).2.2), .ref 168, .ref 175, .ref 182, .ref cho3, .ref 165, .int mo3, .int bi3, .int ob3, .int sta3]) := (fr _ (by first | decide | omega)).trans F_h_162
  have P_h5_k2 : ColA h5 135 31 sy2 wd2 vs2 := P_h_k2.zfr fr (by first | decide | omega) (by first | decide | omega) (by first | decide | omega)
  have P_h5_k3 : ColA h5 162 52 sy3 wd3 vs3 := P_h_k3.zfr fr (by first | decide | omega) (by first | decide | omega) (by first | decide | omega)
  have P_h5_la : LatA h5 87 lt := P_h_la.zfr fr (by first | decide | omega)
  have FR_h5 : Fr h h5 (fun j => j = 81 ∨ j = 87 ∨ (108 ≤ j ∧ j ≤ 110) ∨ j = 113 ∨ (135 ≤ j ∧ j ≤ 137) ∨ j = 140 ∨ (162 ≤ j ∧ j ≤ 164) ∨ j = 167) := FR_h.zsub fr (fun j hj => by omega)
  show WX _ _ _ 8 [(0, .ref 81), (1, .int (nI si))] [] (n, s, h5)
  refine WX.s1 rfl rfl ?_
  refine WX.get1 (fs := [.ref 82, .ref 89, .ref 108, .ref 135, .ref 162, .ref 86, .ref 87, .int (nI cnt), .ref 88]) rfl (ltN hn (by decide)) (F_h5_81) rfl ?_
  refine WX.s1 rfl rfl ?_
  refine WX.s1 rfl rfl ?_
  refine WX.get1 (fs := [.ref 82, .ref 89, .ref 108, .ref 135, .ref 162, .ref 86, .ref 87, .int (nI cnt), .ref 88]) rfl (ltN hn (by decide)) (F_h5_81) rfl ?_
  refine WX.get1 (fs := [.ref 83, .int fu, .ref 84, .ref 85, .int fw, .int fl, .int fwi, .int fe, .int (nI ln), .int (nI di), .int fap, .int fal, .int fad]) rfl (ltN hn (by decide)) (F_h5_82) rfl ?_
  refine WX.s1 rfl rfl ?_
  refine WX.if_ rfl (fun c_21 => ?_) (fun c_21 => ?_)
  · skip
    have n_21 : ¬ si = 0 := fun zz_ => c_21 ((nI_eq (a := si) (b := 0) (by omega) (by omega)).mpr zz_)
    refine WX.s1 rfl rfl ?_
    have eif : (if si = 0 then 1 else 0) = 0 := if_neg n_21
    refine WX.callC (vs := [.ref 81, .int (nI di), .int 0]) rfl rfl rfl (Nat.le_of_ble_eq_true rfl) (rcv_ok (ltN hn (by decide)) F_h5_81) ?_
    refine x_tdis0 hn hlt hd1 hd2 P_h5_la F_h5_81 (fun h29 fr P_h29_la => ?_)
    have F_h29_81 : h29 81 = .inr (6, [.ref 82, .ref 89, .ref 108, .ref 135, .ref 162, .ref 86, .ref 87, .int (nI cnt), .ref 88]) := (fr _ (by first | decide | omega)).trans F_h5_81
    have F_h29_82 : h29 82 = .inr (3, [.ref 83, .int fu, .ref 84, .ref 85, .int fw, .int fl, .int fwi, .int fe, .int (nI ln), .int (nI di), .int fap, .int fal, .int fad]) := (fr _ (by first | decide | omega)).trans F_h5_82
    have F_h29_108 : h29 108 = .inr (1, [.ref (aBig + 3), .ref (aBig + 4), .int gr1, .ref 109, .ref 110, .ref 113, .int (nI (vs1 ++ [si]).length), .int (nI (colF sy1 wd1 (vs1 ++ [si])).2.1), .int (nI (colF sy1 wd1 (vs1 ++ [si])).2.2), .ref 114, .ref 121, .ref 128, .ref cho1, .ref 111, .int mo1, .int bi1, .int ob1, .int sta1]) := (fr _ (by first | decide | omega)).trans F_h5_108
    have F_h29_135 : h29 135 = .inr (1, [.ref (aBig + 5), .ref (aBig + 6), .int gr2, .ref 136, .ref 137, .ref 140, .int (nI vs2.length), .int (nI (colF sy2 wd2 vs2).2.1), .int (nI (colF sy2 wd2 vs2).2.2), .ref 141, .ref 148, .ref 155, .ref cho2, .ref 138, .int mo2, .int bi2, .int ob2, .int sta2]) := (fr _ (by first | decide | omega)).trans F_h5_135
    have F_h29_162 : h29 162 = .inr (1, [.ref (aBig + 7), .ref (aBig + 8), .int gr3, .ref 163, .ref 164, .ref 167, .int (nI vs3.length), .int (nI (colF sy3 wd3 vs3).2.1), .int (nI (colF sy3 wd3 vs3).2.2), .ref 168, .ref 175, .ref 182, .ref cho3, .ref 165, .int mo3, .int bi3, .int ob3, .int sta3]) := (fr _ (by first | decide | omega)).trans F_h5_162
    have P_h29_k1 : ColA h29 108 35 sy1 wd1 (vs1 ++ [si]) := P_h5_k1.zfr fr (by first | decide | omega) (by first | decide | omega) (by first | decide | omega)
    have P_h29_k2 : ColA h29 135 31 sy2 wd2 vs2 := P_h5_k2.zfr fr (by first | decide | omega) (by first | decide | omega) (by first | decide | omega)
    have P_h29_k3 : ColA h29 162 52 sy3 wd3 vs3 := P_h5_k3.zfr fr (by first | decide | omega) (by first | decide | omega) (by first | decide | omega)
    have FR_h29 : Fr h h29 (fun j => j = 81 ∨ j = 87 ∨ (108 ≤ j ∧ j ≤ 110) ∨ j = 113 ∨ (135 ≤ j ∧ j ≤ 137) ∨ j = 140 ∨ (162 ≤ j ∧ j ≤ 164) ∨ j = 167) := FR_h5.zsub fr (fun j hj => by omega)
    show WX _ _ _ 32 [(0, .ref 81), (1, .int (nI si))] [.int (nI (tnum lt di 0).1), .ref 135] (n, s, h29)
    have htn := tnum_ok (o := 0) hlt hd1 hd2
    refine WX.callC (vs := [.ref 135, .int (nI (tnum lt di 0).1)]) rfl rfl rfl (Nat.le_of_ble_eq_true rfl) (rcv_ok (ltN hn (by decide)) F_h29_135) ?_
    refine x_kaddP (ltN hn (by decide)) hnb (S2.zfr FR_h29 (by decide) (by decide)) htn.2.2 hl2 P_h29_k2 F_h29_135 (fun h32 fr F_h32_135 P_h32_k2 => ?_)
    have F_h32_81 : h32 81 = .inr (6, [.ref 82, .ref 89, .ref 108, .ref 135, .ref 162, .ref 86, .ref 87, .int (nI cnt), .ref 88]) := (fr _ (by first | decide | omega)).trans F_h29_81
    have F_h32_82 : h32 82 = .inr (3, [.ref 83, .int fu, .ref 84, .ref 85, .int fw, .int fl, .int fwi, .int fe, .int (nI ln), .int (nI di), .int fap, .int fal, .int fad]) := (fr _ (by first | decide | omega)).trans F_h29_82
    have F_h32_108 : h32 108 = .inr (1, [.ref (aBig + 3), .ref (aBig + 4), .int gr1, .ref 109, .ref 110, .ref 113, .int (nI (vs1 ++ [si]).length), .int (nI (colF sy1 wd1 (vs1 ++ [si])).2.1), .int (nI (colF sy1 wd1 (vs1 ++ [si])).2.2), .ref 114, .ref 121, .ref 128, .ref cho1, .ref 111, .int mo1, .int bi1, .int ob1, .int sta1]) := (fr _ (by first | decide | omega)).trans F_h29_108
    have F_h32_162 : h32 162 = .inr (1, [.ref (aBig + 7), .ref (aBig + 8), .int gr3, .ref 163, .ref 164, .ref 167, .int (nI vs3.length), .int (nI (colF sy3 wd3 vs3).2.1), .int (nI (colF sy3 wd3 vs3).2.2), .ref 168, .ref 175, .ref 182, .ref cho3, .ref 165, .int mo3, .int bi3, .int ob3, .int sta3]) := (fr _ (by first | decide | omega)).trans F_h29_162
    have P_h32_k1 : ColA h32 108 35 sy1 wd1 (vs1 ++ [si]) := P_h29_k1.zfr fr (by first | decide | omega) (by first | decide | omega) (by first | decide | omega)
    have P_h32_k3 : ColA h32 162 52 sy3 wd3 vs3 := P_h29_k3.zfr fr (by first | decide | omega) (by first | decide | omega) (by first | decide | omega)
    have P_h32_la : LatA h32 87 ((tnum lt di 0).2) := P_h29_la.zfr fr (by first | decide | omega)
    have FR_h32 : Fr h h32 (fun j => j = 81 ∨ j = 87 ∨ (108 ≤ j ∧ j ≤ 110) ∨ j = 113 ∨ (135 ≤ j ∧ j ≤ 137) ∨ j = 140 ∨ (162 ≤ j ∧ j ≤ 164) ∨ j = 167) := FR_h29.zsub fr (fun j hj => by omega)
    show WX _ _ _ 35 [(0, .ref 81), (1, .int (nI si))] [] (n, s, h32)
    refine WX.s1 rfl rfl ?_
    refine WX.get1 (fs := [.ref 82, .ref 89, .ref 108, .ref 135, .ref 162, .ref 86, .ref 87, .int (nI cnt), .ref 88]) rfl (ltN hn (by decide)) (F_h32_81) rfl ?_
    refine WX.s1 rfl rfl ?_
    refine WX.get1 (fs := [.ref 82, .ref 89, .ref 108, .ref 135, .ref 162, .ref 86, .ref 87, .int (nI cnt), .ref 88]) rfl (ltN hn (by decide)) (F_h32_81) rfl ?_
    refine WX.get1 (fs := [.ref 83, .int fu, .ref 84, .ref 85, .int fw, .int fl, .int fwi, .int fe, .int (nI ln), .int (nI di), .int fap, .int fal, .int fad]) rfl (ltN hn (by decide)) (F_h32_82) rfl ?_
    refine WX.callC (vs := [.ref 162, .int (nI ln)]) rfl rfl rfl (Nat.le_of_ble_eq_true rfl) (rcv_ok (ltN hn (by decide)) F_h32_162) ?_
    refine x_kaddP (ltN hn (by decide)) hnb (S3.zfr FR_h32 (by decide) (by decide)) (by omega) hl3 P_h32_k3 F_h32_162 (fun h46 fr F_h46_162 P_h46_k3 => ?_)
    have F_h46_81 : h46 81 = .inr (6, [.ref 82, .ref 89, .ref 108, .ref 135, .ref 162, .ref 86, .ref 87, .int (nI cnt), .ref 88]) := (fr _ (by first | decide | omega)).trans F_h32_81
    have F_h46_82 : h46 82 = .inr (3, [.ref 83, .int fu, .ref 84, .ref 85, .int fw, .int fl, .int fwi, .int fe, .int (nI ln), .int (nI di), .int fap, .int fal, .int fad]) := (fr _ (by first | decide | omega)).trans F_h32_82
    have F_h46_108 : h46 108 = .inr (1, [.ref (aBig + 3), .ref (aBig + 4), .int gr1, .ref 109, .ref 110, .ref 113, .int (nI (vs1 ++ [si]).length), .int (nI (colF sy1 wd1 (vs1 ++ [si])).2.1), .int (nI (colF sy1 wd1 (vs1 ++ [si])).2.2), .ref 114, .ref 121, .ref 128, .ref cho1, .ref 111, .int mo1, .int bi1, .int ob1, .int sta1]) := (fr _ (by first | decide | omega)).trans F_h32_108
    have F_h46_135 : h46 135 = .inr (1, [.ref (aBig + 5), .ref (aBig + 6), .int gr2, .ref 136, .ref 137, .ref 140, .int (nI (vs2 ++ [(tnum lt di 0).1]).length), .int (nI (colF sy2 wd2 (vs2 ++ [(tnum lt di 0).1])).2.1), .int (nI (colF sy2 wd2 (vs2 ++ [(tnum lt di 0).1])).2.2), .ref 141, .ref 148, .ref 155, .ref cho2, .ref 138, .int mo2, .int bi2, .int ob2, .int sta2]) := (fr _ (by first | decide | omega)).trans F_h32_135
    have P_h46_k1 : ColA h46 108 35 sy1 wd1 (vs1 ++ [si]) := P_h32_k1.zfr fr (by first | decide | omega) (by first | decide | omega) (by first | decide | omega)
    have P_h46_k2 : ColA h46 135 31 sy2 wd2 (vs2 ++ [(tnum lt di 0).1]) := P_h32_k2.zfr fr (by first | decide | omega) (by first | decide | omega) (by first | decide | omega)
    have P_h46_la : LatA h46 87 ((tnum lt di 0).2) := P_h32_la.zfr fr (by first | decide | omega)
    have FR_h46 : Fr h h46 (fun j => j = 81 ∨ j = 87 ∨ (108 ≤ j ∧ j ≤ 110) ∨ j = 113 ∨ (135 ≤ j ∧ j ≤ 137) ∨ j = 140 ∨ (162 ≤ j ∧ j ≤ 164) ∨ j = 167) := FR_h32.zsub fr (fun j hj => by omega)
    show WX _ _ _ 49 [(0, .ref 81), (1, .int (nI si))] [] (n, s, h46)
    refine WX.s1 rfl rfl ?_
    refine WX.s1 rfl rfl ?_
    refine WX.get1 (fs := [.ref 82, .ref 89, .ref 108, .ref 135, .ref 162, .ref 86, .ref 87, .int (nI cnt), .ref 88]) rfl (ltN hn (by decide)) (F_h46_81) rfl ?_
    refine WX.s1 rfl rfl ?_
    refine WX.s1 (S' := [.int ((nI cnt) + 1), .ref 81]) rfl rfl ?_
    rw [show ((nI cnt) + 1) = nI (cnt + 1) from nI_add cnt 1]
    refine WX.put1 (fs := [.ref 82, .ref 89, .ref 108, .ref 135, .ref 162, .ref 86, .ref 87, .int (nI cnt), .ref 88]) (fs' := [.ref 82, .ref 89, .ref 108, .ref 135, .ref 162, .ref 86, .ref 87, .int (nI (cnt + 1)), .ref 88]) rfl (ltN hn (by decide)) (F_h46_81) (Nat.le_of_ble_eq_true rfl) (rfl) rfl (fun h56 e_h56 => ?_)
    have F_h56_81 : h56 81 = .inr (6, [.ref 82, .ref 89, .ref 108, .ref 135, .ref 162, .ref 86, .ref 87, .int (nI (cnt + 1)), .ref 88]) := by rw [e_h56]; exact va_up_eq
    have F_h56_82 : h56 82 = .inr (3, [.ref 83, .int fu, .ref 84, .ref 85, .int fw, .int fl, .int fwi, .int fe, .int (nI ln), .int (nI di), .int fap, .int fal, .int fad]) := by rw [e_h56, va_up_neq (by decide)]; exact F_h46_82
    have F_h56_108 : h56 108 = .inr (1, [.ref (aBig + 3), .ref (aBig + 4), .int gr1, .ref 109, .ref 110, .ref 113, .int (nI (vs1 ++ [si]).length), .int (nI (colF sy1 wd1 (vs1 ++ [si])).2.1), .int (nI (colF sy1 wd1 (vs1 ++ [si])).2.2), .ref 114, .ref 121, .ref 128, .ref cho1, .ref 111, .int mo1, .int bi1, .int ob1, .int sta1]) := by rw [e_h56, va_up_neq (by decide)]; exact F_h46_108
    have F_h56_135 : h56 135 = .inr (1, [.ref (aBig + 5), .ref (aBig + 6), .int gr2, .ref 136, .ref 137, .ref 140, .int (nI (vs2 ++ [(tnum lt di 0).1]).length), .int (nI (colF sy2 wd2 (vs2 ++ [(tnum lt di 0).1])).2.1), .int (nI (colF sy2 wd2 (vs2 ++ [(tnum lt di 0).1])).2.2), .ref 141, .ref 148, .ref 155, .ref cho2, .ref 138, .int mo2, .int bi2, .int ob2, .int sta2]) := by rw [e_h56, va_up_neq (by decide)]; exact F_h46_135
    have F_h56_162 : h56 162 = .inr (1, [.ref (aBig + 7), .ref (aBig + 8), .int gr3, .ref 163, .ref 164, .ref 167, .int (nI (vs3 ++ [ln]).length), .int (nI (colF sy3 wd3 (vs3 ++ [ln])).2.1), .int (nI (colF sy3 wd3 (vs3 ++ [ln])).2.2), .ref 168, .ref 175, .ref 182, .ref cho3, .ref 165, .int mo3, .int bi3, .int ob3, .int sta3]) := by rw [e_h56, va_up_neq (by decide)]; exact F_h46_162
    have P_h56_k1 : ColA h56 108 35 sy1 wd1 (vs1 ++ [si]) := P_h46_k1.zfr (Fr.of e_h56) (by decide) (by decide) (by decide)
    have P_h56_k2 : ColA h56 135 31 sy2 wd2 (vs2 ++ [(tnum lt di 0).1]) := P_h46_k2.zfr (Fr.of e_h56) (by decide) (by decide) (by decide)
    have P_h56_k3 : ColA h56 162 52 sy3 wd3 (vs3 ++ [ln]) := P_h46_k3.zfr (Fr.of e_h56) (by decide) (by decide) (by decide)
    have P_h56_la : LatA h56 87 ((tnum lt di 0).2) := P_h46_la.zfr (Fr.of e_h56) (by decide)
    have FR_h56 : Fr h h56 (fun j => j = 81 ∨ j = 87 ∨ (108 ≤ j ∧ j ≤ 110) ∨ j = 113 ∨ (135 ≤ j ∧ j ≤ 137) ∨ j = 140 ∨ (162 ≤ j ∧ j ≤ 164) ∨ j = 167) := FR_h46.zup e_h56 (by first | exact rfl | exact Or.inl rfl | exact Or.inr rfl | exact ⟨by decide, by decide⟩ | decide | omega)
    clear F_h46_81 F_h46_82 F_h46_108 F_h46_135 F_h46_162 P_h46_k1 P_h46_k2 P_h46_k3 P_h46_la FR_h46 e_h56
    rw [eif] at kk
    exact WX.ret0 rfl (kk h56 FR_h56 F_h56_81 F_h56_108 P_h56_k1 F_h56_135 P_h56_k2 F_h56_162 P_h56_k3 P_h56_la)
  · skip
    have n_21 : si = 0 := (nI_eq (a := si) (b := 0) (by omega) (by omega)).mp (Classical.not_not.mp c_21)
    refine WX.s1 rfl rfl ?_
    refine WX.s1 rfl rfl ?_
    have eif : (if si = 0 then 1 else 0) = 1 := if_pos n_21
    refine WX.callC (vs := [.ref 81, .int (nI di), .int 1]) rfl rfl rfl (Nat.le_of_ble_eq_true rfl) (rcv_ok (ltN hn (by decide)) F_h5_81) ?_
    refine x_tdis1 hn hlt hd1 hd2 P_h5_la F_h5_81 (fun h29 fr P_h29_la => ?_)
    have F_h29_81 : h29 81 = .inr (6, [.ref 82, .ref 89, .ref 108, .ref 135, .ref 162, .ref 86, .ref 87, .int (nI cnt), .ref 88]) := (fr _ (by first | decide | omega)).trans F_h5_81
    have F_h29_82 : h29 82 = .inr (3, [.ref 83, .int fu, .ref 84, .ref 85, .int fw, .int fl, .int fwi, .int fe, .int (nI ln), .int (nI di), .int fap, .int fal, .int fad]) := (fr _ (by first | decide | omega)).trans F_h5_82
    have F_h29_108 : h29 108 = .inr (1, [.ref (aBig + 3), .ref (aBig + 4), .int gr1, .ref 109, .ref 110, .ref 113, .int (nI (vs1 ++ [si]).length), .int (nI (colF sy1 wd1 (vs1 ++ [si])).2.1), .int (nI (colF sy1 wd1 (vs1 ++ [si])).2.2), .ref 114, .ref 121, .ref 128, .ref cho1, .ref 111, .int mo1, .int bi1, .int ob1, .int sta1]) := (fr _ (by first | decide | omega)).trans F_h5_108
    have F_h29_135 : h29 135 = .inr (1, [.ref (aBig + 5), .ref (aBig + 6), .int gr2, .ref 136, .ref 137, .ref 140, .int (nI vs2.length), .int (nI (colF sy2 wd2 vs2).2.1), .int (nI (colF sy2 wd2 vs2).2.2), .ref 141, .ref 148, .ref 155, .ref cho2, .ref 138, .int mo2, .int bi2, .int ob2, .int sta2]) := (fr _ (by first | decide | omega)).trans F_h5_135
    have F_h29_162 : h29 162 = .inr (1, [.ref (aBig + 7), .ref (aBig + 8), .int gr3, .ref 163, .ref 164, .ref 167, .int (nI vs3.length), .int (nI (colF sy3 wd3 vs3).2.1), .int (nI (colF sy3 wd3 vs3).2.2), .ref 168, .ref 175, .ref 182, .ref cho3, .ref 165, .int mo3, .int bi3, .int ob3, .int sta3]) := (fr _ (by first | decide | omega)).trans F_h5_162
    have P_h29_k1 : ColA h29 108 35 sy1 wd1 (vs1 ++ [si]) := P_h5_k1.zfr fr (by first | decide | omega) (by first | decide | omega) (by first | decide | omega)
    have P_h29_k2 : ColA h29 135 31 sy2 wd2 vs2 := P_h5_k2.zfr fr (by first | decide | omega) (by first | decide | omega) (by first | decide | omega)
    have P_h29_k3 : ColA h29 162 52 sy3 wd3 vs3 := P_h5_k3.zfr fr (by first | decide | omega) (by first | decide | omega) (by first | decide | omega)
    have FR_h29 : Fr h h29 (fun j => j = 81 ∨ j = 87 ∨ (108 ≤ j ∧ j ≤ 110) ∨ j = 113 ∨ (135 ≤ j ∧ j ≤ 137) ∨ j = 140 ∨ (162 ≤ j ∧ j ≤ 164) ∨ j = 167) := FR_h5.zsub fr (fun j hj => by omega)
    show WX _ _ _ 32 [(0, .ref 81), (1, .int (nI si))] [.int (nI (tnum lt di 1).1), .ref 135] (n, s, h29)
    have htn := tnum_ok (o := 1) hlt hd1 hd2
    refine WX.callC (vs := [.ref 135, .int (nI (tnum lt di 1).1)]) rfl rfl rfl (Nat.le_of_ble_eq_true rfl) (rcv_ok (ltN hn (by decide)) F_h29_135) ?_
    refine x_kaddP (ltN hn (by decide)) hnb (S2.zfr FR_h29 (by decide) (by decide)) htn.2.2 hl2 P_h29_k2 F_h29_135 (fun h32 fr F_h32_135 P_h32_k2 => ?_)
    have F_h32_81 : h32 81 = .inr (6, [.ref 82, .ref 89, .ref 108, .ref 135, .ref 162, .ref 86, .ref 87, .int (nI cnt), .ref 88]) := (fr _ (by first | decide | omega)).trans F_h29_81
    have F_h32_82 : h32 82 = .inr (3, [.ref 83, .int fu, .ref 84, .ref 85, .int fw, .int fl, .int fwi, .int fe, .int (nI ln), .int (nI di), .int fap, .int fal, .int fad]) := (fr _ (by first | decide | omega)).trans F_h29_82
    have F_h32_108 : h32 108 = .inr (1, [.ref (aBig + 3), .ref (aBig + 4), .int gr1, .ref 109, .ref 110, .ref 113, .int (nI (vs1 ++ [si]).length), .int (nI (colF sy1 wd1 (vs1 ++ [si])).2.1), .int (nI (colF sy1 wd1 (vs1 ++ [si])).2.2), .ref 114, .ref 121, .ref 128, .ref cho1, .ref 111, .int mo1, .int bi1, .int ob1, .int sta1]) := (fr _ (by first | decide | omega)).trans F_h29_108
    have F_h32_162 : h32 162 = .inr (1, [.ref (aBig + 7), .ref (aBig + 8), .int gr3, .ref 163, .ref 164, .ref 167, .int (nI vs3.length), .int (nI (colF sy3 wd3 vs3).2.1), .int (nI (colF sy3 wd3 vs3).2.2), .ref 168, .ref 175, .ref 182, .ref cho3, .ref 165, .int mo3, .int bi3, .int ob3, .int sta3]) := (fr _ (by first | decide | omega)).trans F_h29_162
    have P_h32_k1 : ColA h32 108 35 sy1 wd1 (vs1 ++ [si]) := P_h29_k1.zfr fr (by first | decide | omega) (by first | decide | omega) (by first | decide | omega)
    have P_h32_k3 : ColA h32 162 52 sy3 wd3 vs3 := P_h29_k3.zfr fr (by first | decide | omega) (by first | decide | omega) (by first | decide | omega)
    have P_h32_la : LatA h32 87 ((tnum lt di 1).2) := P_h29_la.zfr fr (by first | decide | omega)
    have FR_h32 : Fr h h32 (fun j => j = 81 ∨ j = 87 ∨ (108 ≤ j ∧ j ≤ 110) ∨ j = 113 ∨ (135 ≤ j ∧ j ≤ 137) ∨ j = 140 ∨ (162 ≤ j ∧ j ≤ 164) ∨ j = 167) := FR_h29.zsub fr (fun j hj => by omega)
    show WX _ _ _ 35 [(0, .ref 81), (1, .int (nI si))] [] (n, s, h32)
    refine WX.s1 rfl rfl ?_
    refine WX.get1 (fs := [.ref 82, .ref 89, .ref 108, .ref 135, .ref 162, .ref 86, .ref 87, .int (nI cnt), .ref 88]) rfl (ltN hn (by decide)) (F_h32_81) rfl ?_
    refine WX.s1 rfl rfl ?_
    refine WX.get1 (fs := [.ref 82, .ref 89, .ref 108, .ref 135, .ref 162, .ref 86, .ref 87, .int (nI cnt), .ref 88]) rfl (ltN hn (by decide)) (F_h32_81) rfl ?_
    refine WX.get1 (fs := [.ref 83, .int fu, .ref 84, .ref 85, .int fw, .int fl, .int fwi, .int fe, .int (nI ln), .int (nI di), .int fap, .int fal, .int fad]) rfl (ltN hn (by decide)) (F_h32_82) rfl ?_
    refine WX.callC (vs := [.ref 162, .int (nI ln)]) rfl rfl rfl (Nat.le_of_ble_eq_true rfl) (rcv_ok (ltN hn (by decide)) F_h32_162) ?_
    refine x_kaddP (ltN hn (by decide)) hnb (S3.zfr FR_h32 (by decide) (by decide)) (by omega) hl3 P_h32_k3 F_h32_162 (fun h46 fr F_h46_162 P_h46_k3 => ?_)
    have F_h46_81 : h46 81 = .inr (6, [.ref 82, .ref 89, .ref 108, .ref 135, .ref 162, .ref 86, .ref 87, .int (nI cnt), .ref 88]) := (fr _ (by first | decide | omega)).trans F_h32_81
    have F_h46_82 : h46 82 = .inr (3, [.ref 83, .int fu, .ref 84, .ref 85, .int fw, .int fl, .int fwi, .int fe, .int (nI ln), .int (nI di), .int fap, .int fal, .int fad]) := (fr _ (by first | decide | omega)).trans F_h32_82
    have F_h46_108 : h46 108 = .inr (1, [.ref (aBig + 3), .ref (aBig + 4), .int gr1, .ref 109, .ref 110, .ref 113, .int (nI (vs1 ++ [si]).length), .int (nI (colF sy1 wd1 (vs1 ++ [si])).2.1), .int (nI (colF sy1 wd1 (vs1 ++ [si])).2.2), .ref 114, .ref 121, .ref 128, .ref cho1, .ref 111, .int mo1, .int bi1, .int ob1, .int sta1]) := (fr _ (by first | decide | omega)).trans F_h32_108
    have F_h46_135 : h46 135 = .inr (1, [.ref (aBig + 5), .ref (aBig + 6), .int gr2, .ref 136, .ref 137, .ref 140, .int (nI (vs2 ++ [(tnum lt di 1).1]).length), .int (nI (colF sy2 wd2 (vs2 ++ [(tnum lt di 1).1])).2.1), .int (nI (colF sy2 wd2 (vs2 ++ [(tnum lt di 1).1])).2.2), .ref 141, .ref 148, .ref 155, .ref cho2, .ref 138, .int mo2, .int bi2, .int ob2, .int sta2]) := (fr _ (by first | decide | omega)).trans F_h32_135
    have P_h46_k1 : ColA h46 108 35 sy1 wd1 (vs1 ++ [si]) := P_h32_k1.zfr fr (by first | decide | omega) (by first | decide | omega) (by first | decide | omega)
    have P_h46_k2 : ColA h46 135 31 sy2 wd2 (vs2 ++ [(tnum lt di 1).1]) := P_h32_k2.zfr fr (by first | decide | omega) (by first | decide | omega) (by first | decide | omega)
    have P_h46_la : LatA h46 87 ((tnum lt di 1).2) := P_h32_la.zfr fr (by first | decide | omega)
    have FR_h46 : Fr h h46 (fun j => j = 81 ∨ j = 87 ∨ (108 ≤ j ∧ j ≤ 110) ∨ j = 113 ∨ (135 ≤ j ∧ j ≤ 137) ∨ j = 140 ∨ (162 ≤ j ∧ j ≤ 164) ∨ j = 167) := FR_h32.zsub fr (fun j hj => by omega)
    show WX _ _ _ 49 [(0, .ref 81), (1, .int (nI si))] [] (n, s, h46)
    refine WX.s1 rfl rfl ?_
    refine WX.s1 rfl rfl ?_
    refine WX.get1 (fs := [.ref 82, .ref 89, .ref 108, .ref 135, .ref 162, .ref 86, .ref 87, .int (nI cnt), .ref 88]) rfl (ltN hn (by decide)) (F_h46_81) rfl ?_
    refine WX.s1 rfl rfl ?_
    refine WX.s1 (S' := [.int ((nI cnt) + 1), .ref 81]) rfl rfl ?_
    rw [show ((nI cnt) + 1) = nI (cnt + 1) from nI_add cnt 1]
    refine WX.put1 (fs := [.ref 82, .ref 89, .ref 108, .ref 135, .ref 162, .ref 86, .ref 87, .int (nI cnt), .ref 88]) (fs' := [.ref 82, .ref 89, .ref 108, .ref 135, .ref 162, .ref 86, .ref 87, .int (nI (cnt + 1)), .ref 88]) rfl (ltN hn (by decide)) (F_h46_81) (Nat.le_of_ble_eq_true rfl) (rfl) rfl (fun h56 e_h56 => ?_)
    have F_h56_81 : h56 81 = .inr (6, [.ref 82, .ref 89, .ref 108, .ref 135, .ref 162, .ref 86, .ref 87, .int (nI (cnt + 1)), .ref 88]) := by rw [e_h56]; exact va_up_eq
    have F_h56_82 : h56 82 = .inr (3, [.ref 83, .int fu, .ref 84, .ref 85, .int fw, .int fl, .int fwi, .int fe, .int (nI ln), .int (nI di), .int fap, .int fal, .int fad]) := by rw [e_h56, va_up_neq (by decide)]; exact F_h46_82
    have F_h56_108 : h56 108 = .inr (1, [.ref (aBig + 3), .ref (aBig + 4), .int gr1, .ref 109, .ref 110, .ref 113, .int (nI (vs1 ++ [si]).length), .int (nI (colF sy1 wd1 (vs1 ++ [si])).2.1), .int (nI (colF sy1 wd1 (vs1 ++ [si])).2.2), .ref 114, .ref 121, .ref 128, .ref cho1, .ref 111, .int mo1, .int bi1, .int ob1, .int sta1]) := by rw [e_h56, va_up_neq (by decide)]; exact F_h46_108
    have F_h56_135 : h56 135 = .inr (1, [.ref (aBig + 5), .ref (aBig + 6), .int gr2, .ref 136, .ref 137, .ref 140, .int (nI (vs2 ++ [(tnum lt di 1).1]).length), .int (nI (colF sy2 wd2 (vs2 ++ [(tnum lt di 1).1])).2.1), .int (nI (colF sy2 wd2 (vs2 ++ [(tnum lt di 1).1])).2.2), .ref 141, .ref 148, .ref 155, .ref cho2, .ref 138, .int mo2, .int bi2, .int ob2, .int sta2]) := by rw [e_h56, va_up_neq (by decide)]; exact F_h46_135
    have F_h56_162 : h56 162 = .inr (1, [.ref (aBig + 7), .ref (aBig + 8), .int gr3, .ref 163, .ref 164, .ref 167, .int (nI (vs3 ++ [ln]).length), .int (nI (colF sy3 wd3 (vs3 ++ [ln])).2.1), .int (nI (colF sy3 wd3 (vs3 ++ [ln])).2.2), .ref 168, .ref 175, .ref 182, .ref cho3, .ref 165, .int mo3, .int bi3, .int ob3, .int sta3]) := by rw [e_h56, va_up_neq (by decide)]; exact F_h46_162
    have P_h56_k1 : ColA h56 108 35 sy1 wd1 (vs1 ++ [si]) := P_h46_k1.zfr (Fr.of e_h56) (by decide) (by decide) (by decide)
    have P_h56_k2 : ColA h56 135 31 sy2 wd2 (vs2 ++ [(tnum lt di 1).1]) := P_h46_k2.zfr (Fr.of e_h56) (by decide) (by decide) (by decide)
    have P_h56_k3 : ColA h56 162 52 sy3 wd3 (vs3 ++ [ln]) := P_h46_k3.zfr (Fr.of e_h56) (by decide) (by decide) (by decide)
    have P_h56_la : LatA h56 87 ((tnum lt di 1).2) := P_h46_la.zfr (Fr.of e_h56) (by decide)
    have FR_h56 : Fr h h56 (fun j => j = 81 ∨ j = 87 ∨ (108 ≤ j ∧ j ≤ 110) ∨ j = 113 ∨ (135 ≤ j ∧ j ≤ 137) ∨ j = 140 ∨ (162 ≤ j ∧ j ≤ 164) ∨ j = 167) := FR_h46.zup e_h56 (by first | exact rfl | exact Or.inl rfl | exact Or.inr rfl | exact ⟨by decide, by decide⟩ | decide | omega)
    clear F_h46_81 F_h46_82 F_h46_108 F_h46_135 F_h46_162 P_h46_k1 P_h46_k2 P_h46_k3 P_h46_la FR_h46 e_h56
    rw [eif] at kk
    exact WX.ret0 rfl (kk h56 FR_h56 F_h56_81 F_h56_108 P_h56_k1 F_h56_135 P_h56_k2 F_h56_162 P_h56_k3 P_h56_la)
set_option maxRecDepth 20000 in
theorem x_fat {d n s : Nat} {h : Nat → aE} {fw fl fwi fe fle fdi fap fal fad : Int32} {D : Nat → Nat} {dA : Nat → Int32} {U p : Nat} (hn : 190 ≤ n) (hD : ∀ i, i < U → D i < 256 ∧ dA i = sb_b (D i)) (hU : U ≤ 16000) (hp : p < U) (F_h_82 : h 82 = .inr (3, [.ref 83, .int (nI U), .ref 84, .ref 85, .int fw, .int fl, .int fwi, .int fe, .int fle, .int fdi, .int fap, .int fal, .int fad])) (F_h_83 : h 83 = .inl (0, 16000, .inl dA))  {Ψ : Option Value → aH → Prop} (kk : Ψ (some (.int (nI (D p)))) (n, s, h)) : WO (mM (d + 1)) 36 [.ref 82, .int (nI p)] (n, s, h) Ψ := by
  refine WO.of (Nat.le_of_ble_eq_true rfl) ?_
  show WX (lk tX3_at) (mM d) Ψ 0 [(0, .ref 82), (1, .int (nI p))] [] (n, s, h)
  refine WX.s1 rfl rfl ?_
  refine WX.if_ rfl (fun c_1 => absurd c_1 (fun zz_ => absurd ((nI_ltI (a := p) (b := 0) (by omega) (by omega)).mp zz_) (Nat.not_lt.mpr (by omega)))) (fun c_1 => ?_)
  clear c_1
  refine WX.s1 rfl rfl ?_
  refine WX.s1 rfl rfl ?_
  refine WX.get1 (fs := [.ref 83, .int (nI U), .ref 84, .ref 85, .int fw, .int fl, .int fwi, .int fe, .int fle, .int fdi, .int fap, .int fal, .int fad]) rfl (ltN hn (by decide)) (F_h_82) rfl ?_
  refine WX.icmp rfl (fun c_9 => absurd c_9 (fun zz_ => absurd ((nI_leI (a := U) (b := p) (by omega) (by omega)).mp zz_) (Nat.not_le.mpr (by omega)))) (fun c_9 => ?_)
  clear c_9
  refine WX.s1 rfl rfl ?_
  refine WX.get1 (fs := [.ref 83, .int (nI U), .ref 84, .ref 85, .int fw, .int fl, .int fwi, .int fe, .int fle, .int fdi, .int fap, .int fal, .int fad]) rfl (ltN hn (by decide)) (F_h_82) rfl ?_
  refine WX.s1 rfl rfl ?_
  refine WX.bald1 rfl (ltN hn (by decide)) (F_h_83) (vp_in_nI (by omega) (by decide)) ?_
  rw [nI_clamp (by omega), (hD p hp).2]
  refine WX.s1 rfl rfl ?_
  refine WX.s1 (S' := [.int ((sb_b (D p)) &&& 255)]) rfl rfl ?_
  rw [(sb_byte _ (hD p hp).1).1]
  refine WX.s1 rfl rfl ?_
  exact WX.ret1 rfl kk
