/-! a block, pure -/
theorem sY_len (L : Nat → Nat) (t : Nat) (ls : List Nat) (f k : Nat) : (sY L t ls f k).length = sumN (fun i => L (ls.getD (f + i) 0)) k / 8 + 1 := by
  unfold sY
  rw [leBy_len, sB_1]
  show (0 + _) / 8 + 1 = _
  rw [Nat.zero_add]
theorem stmY_len (L : Nat → Nat) (t : Nat) (ls : List Nat) : (stmY L t ls).length = tob L ls := by
  unfold stmY tob
  split
  · rw [sY_len]
    rfl
  · unfold frY frb stb
    simp only [List.length_append, leBy_len, sY_len, Nat.zero_mul, Nat.one_mul, Nat.zero_add, Nat.sub_zero]
    rw [show 2 * ((ls.length + 3) / 4) - (ls.length + 3) / 4 = (ls.length + 3) / 4 by omega, show 3 * ((ls.length + 3) / 4) - 2 * ((ls.length + 3) / 4) = (ls.length + 3) / 4 by omega]
    omega
theorem plY_len {k : Nat} {ls : List Nat} : (plY k ls).length = hpF ls.length + (if k = 0 then ls.length else 1) := by
  unfold plY
  rw [List.length_append, leBy_len]
  split <;> rfl
theorem hdY_len (k st : Nat) (ls : List Nat) : (hdY k st ls).length = chd ls.length := by
  unfold hdY
  exact leBy_len _ _
noncomputable def litY (tC : Option Le) (ls : List Nat) : List Nat := if (litF tC ls).1 < 2 then plY (litF tC ls).1 ls else if (litF tC ls).1 = 3 then hdY 3 (litF tC ls).2.2 ls ++ stmY (tC.getD (fun _ => 0, 0)).1 (tC.getD (fun _ => 0, 0)).2 ls else hdY 2 (litF tC ls).2.2 ls ++ ((dsY (wtL (dF (cL ls)) (topF (cL ls)))).getD [] ++ stmY (dF (cL ls)) (topF (cL ls)) ls)
noncomputable def litT (tC : Option Le) (ls : List Nat) : Option Le := if (litF tC ls).1 = 2 then some (dF (cL ls), topF (cL ls)) else tC
def LitP (tC : Option Le) (ls : List Nat) (x : LC) : Prop := (x = lc1 ls) ∨ (∃ t, tC = some t ∧ (∀ s, s ∈ ls → t.1 s ≠ 0) ∧ x = (3, chd ls.length + tob t.1 ls, tob t.1 ls)) ∨ (∃ y, dsY (wtL (dF (cL ls)) (topF (cL ls))) = some y ∧ ls ≠ [] ∧ ¬ Alk ls ∧ x = (2, chd ls.length + (y.length + tob (dF (cL ls)) ls), y.length + tob (dF (cL ls)) ls))
theorem lit_cs (tC : Option Le) (ls : List Nat) : LitP tC ls (litF tC ls) := by
  have h3 : LitP tC ls (lc3 tC ls (lc1 ls)) := by
    rcases lc3_cs (tC := tC) (ls := ls) (lc1 ls) with e | ⟨t, e1, e2, -, -, e5⟩
    · rw [e]; exact Or.inl rfl
    · rw [e5]; exact Or.inr (Or.inl ⟨t, e1, e2, rfl⟩)
  unfold litF
  split
  · rename_i q
    unfold lc2
    split
    · exact h3
    · rename_i y e
      rcases lcS_cs (lc3 tC ls (lc1 ls)) 2 (y.length + tob (dF (cL ls)) ls) ls.length with ⟨-, z⟩ | ⟨-, z⟩
      · rw [z]
        exact Or.inr (Or.inr ⟨y, e, fun z => by rw [z] at q; exact absurd q.1 (by decide), q.2, rfl⟩)
      · rw [z]; exact h3
  · exact h3
theorem lc1_1 (ls : List Nat) : (lc1 ls).1 < 2 := by
  unfold lc1
  split
  · exact (by decide : 1 < 2)
  · exact (by decide : 0 < 2)
theorem lit_len (tC : Option Le) (ls : List Nat) : (litY tC ls).length = (litF tC ls).2.1 := by
  unfold litY
  rcases lit_cs tC ls with e | ⟨t, e1, -, e⟩ | ⟨y, e1, -, -, e⟩
  · rw [e, if_pos (lc1_1 ls), plY_len]
    unfold lc1
    split
    · rfl
    · rfl
  · rw [e]
    show (if 3 < 2 then plY 3 ls else if 3 = 3 then _ else _ : List Nat).length = _
    rw [if_neg (by decide), if_pos rfl, List.length_append, hdY_len, stmY_len, e1]
    rfl
  · rw [e]
    show (if 2 < 2 then plY 2 ls else if 2 = 3 then _ else _ : List Nat).length = _
    rw [if_neg (by decide), if_neg (by decide), List.length_append, List.length_append, hdY_len, stmY_len, e1]
    rfl
theorem lit_k (tC : Option Le) (ls : List Nat) : (litF tC ls).1 ≤ 3 := by
  rcases lit_cs tC ls with e | ⟨t, e1, -, e⟩ | ⟨y, e1, -, -, e⟩
  · rw [e]; have := lc1_1 ls; omega
  · rw [e]; exact Nat.le_refl 3
  · rw [e]; exact (by decide : 2 ≤ 3)
theorem LeO.mk {L : Nat → Nat} {t : Nat} (h : LenOk L t) : LeO (some (L, t)) := h
theorem lit_ok2 {tC : Option Le} {ls : List Nat} (h : LsOk ls) (hO : LeO tC) : LeO (litT tC ls) := by
  unfold litT
  split
  · rename_i q
    rcases lit_cs tC ls with e | ⟨t, e1, -, e⟩ | ⟨y, e1, h0, ha, e⟩
    · have := lc1_1 ls; rw [e] at q; omega
    · rw [e] at q; exact absurd (show 3 = 2 from q) (by decide)
    · exact LeO.mk (len_cL h (two_alk h h0 ha)).1
  · exact hO
theorem lit_bd {tC : Option Le} {ls : List Nat} (h : ls.length ≤ 8000) : (litF tC ls).2.1 ≤ 8003 := by
  have h1 := (lc1_bd h).1
  have h3 : (lc3 tC ls (lc1 ls)).2.1 ≤ 8003 := Nat.le_trans (lc3_le _) h1
  unfold litF
  split
  · unfold lc2
    split
    · exact h3
    · rename_i y e
      rcases lcS_cs (lc3 tC ls (lc1 ls)) 2 (y.length + tob (dF (cL ls)) ls) ls.length with ⟨z1, z⟩ | ⟨-, z⟩
      · rw [z]
        have := z1.2
        show chd ls.length + _ ≤ 8003
        omega
      · rw [z]; exact h3
  · exact h3
/-- the row's going, to its end -/
def goE (D : Nat → Nat) (way least win e f : Nat) : GSt := goN D way least win e f (e - f)
theorem goN_adv {D : Nat → Nat} {way least win e f : Nat} : ∀ k, e ≤ (goN D way least win e f k).1 ∨ f + k ≤ (goN D way least win e f k).1 := by
  intro k
  induction k with
  | zero => exact Or.inr (Nat.le_refl _)
  | succ k ih =>
    show e ≤ (gStep D way least win e (goN D way least win e f k)).1 ∨ f + (k + 1) ≤ (gStep D way least win e (goN D way least win e f k)).1
    generalize goN D way least win e f k = x at ih ⊢
    unfold gStep
    split
    · split
      · show e ≤ x.1 + 1 ∨ f + (k + 1) ≤ x.1 + 1
        omega
      · show e ≤ x.1 + tk D way least win e x.1 ∨ f + (k + 1) ≤ x.1 + tk D way least win e x.1
        omega
    · omega
theorem goE_end {D : Nat → Nat} {way least win e f : Nat} : e ≤ (goE D way least win e f).1 := by
  have := goN_adv (D := D) (way := way) (least := least) (win := win) (e := e) (f := f) (e - f)
  unfold goE
  omega
theorem goE_of {D : Nat → Nat} {way least win e f k p si : Nat} {ls : List Nat} {qs : List Sq} (h : goN D way least win e f k = (p, si, ls, qs)) (hp : e ≤ p) : (goE D way least win e f).2.2.1 = ls ∧ (goE D way least win e f).2.2.2 = qs := by
  have q := goN_end (D := D) (way := way) (least := least) (win := win) (e := e) (f := f) (a := e - f) (b := k) goE_end (by rw [h]; exact hp)
  unfold goE
  rw [q, h]
  exact ⟨rfl, rfl⟩
def SqB (q : Sq) : Prop := q.1 ≤ 16000 ∧ 3 ≤ q.2.1 ∧ q.2.1 ≤ 16000 ∧ 1 ≤ q.2.2 ∧ q.2.2 ≤ 16000
theorem goN_q {D : Nat → Nat} {way least win e f : Nat} (hl : 3 ≤ least) (hf : f ≤ e) (he : e ≤ 16000) (hD : ∀ i, i < e → D i < 256) : ∀ k, (∀ s, s ∈ (goN D way least win e f k).2.2.1 → s < 256) ∧ ∀ q, q ∈ (goN D way least win e f k).2.2.2 → SqB q := by
  intro k
  induction k with
  | zero => exact ⟨fun s h => (nomatch h), fun s h => (nomatch h)⟩
  | succ k ih =>
    have hok := goN_ok (D := D) (way := way) (win := win) hl hf k
    show (∀ s, s ∈ (gStep D way least win e (goN D way least win e f k)).2.2.1 → s < 256) ∧ ∀ q, q ∈ (gStep D way least win e (goN D way least win e f k)).2.2.2 → SqB q
    generalize goN D way least win e f k = x at ih hok ⊢
    unfold gStep
    obtain ⟨o1, o2, o3, o4⟩ := hok
    split
    · rename_i hx
      split
      · refine ⟨fun s hs => ?_, ih.2⟩
        rcases List.mem_append.mp hs with q | q
        · exact ih.1 s q
        · rw [List.mem_singleton.mp q]; exact hD _ hx
      · rename_i ht
        refine ⟨ih.1, fun q hq => ?_⟩
        rcases List.mem_append.mp hq with q1 | q1
        · exact ih.2 q q1
        · rw [List.mem_singleton.mp q1]
          have a := tk_ls (by omega) ht
          have b := tk_le D way least win e x.1
          refine ⟨?_, ?_, ?_, ?_, ?_⟩
          · show x.2.1 ≤ 16000; omega
          · show 3 ≤ tk D way least win e x.1; omega
          · show tk D way least win e x.1 ≤ 16000; omega
          · show 1 ≤ x.1 - (mAt D (wy way) least win e x.1).2; omega
          · show x.1 - (mAt D (wy way) least win e x.1).2 ≤ 16000; omega
    · exact ih
theorem sq_ok {qs : List Sq} (h : ∀ q, q ∈ qs → SqB q) : SqOk qs := fun i hi => h _ (by rw [List.getD_eq_getElem?_getD, List.getElem?_eq_getElem hi]; exact List.getElem_mem hi)
theorem num_ok {lt : Sq} (hlt : LatOk lt) {qs : List Sq} (h : ∀ q, q ∈ qs → SqB q) : ∀ k, k ≤ qs.length → (∀ v, v ∈ (numF lt (qs.take k)).1 → v ≤ 16003 ∧ 1 ≤ v) ∧ LatOk (numF lt (qs.take k)).2 := by
  intro k
  induction k with
  | zero => exact fun _ => ⟨fun v hv => (nomatch hv), hlt⟩
  | succ k ih =>
    intro hk
    obtain ⟨i1, i2⟩ := ih (by omega)
    rw [take_snoc (by omega), numF_snoc]
    have hq := sq_ok h k (by omega)
    unfold numS
    have t := tnum_ok (o := if (qs.getD k (0, 0, 0)).1 = 0 then 1 else 0) i2 hq.2.2.2.1 hq.2.2.2.2
    refine ⟨fun v hv => ?_, t.1⟩
    rcases List.mem_append.mp hv with q | q
    · exact i1 v q
    · rw [List.mem_singleton.mp q]; exact ⟨t.2.2, t.2.1⟩
theorem num_all {lt : Sq} (hlt : LatOk lt) {qs : List Sq} (h : ∀ q, q ∈ qs → SqB q) : (∀ v, v ∈ (numF lt qs).1 → v ≤ 16003 ∧ 1 ≤ v) ∧ LatOk (numF lt qs).2 := by
  have := num_ok hlt h qs.length (Nat.le_refl _)
  rwa [List.take_length] at this
/-- what a column tells, and by which table -/
noncomputable def mdY (tb G : Nat) (sy : Nat → Nat) (tH : Option Tb) (vs : List Nat) : Nat := (chF (tKn tb) tH G (vs.map sy)).1
noncomputable def tbF (tb G : Nat) (sy : Nat → Nat) (tH : Option Tb) (vs : List Nat) : Tb := chT (tKn tb) tH G (vs.map sy) (mdY tb G sy tH vs)
noncomputable def seY (tH1 tH2 tH3 : Option Tb) (lt : Sq) (qs : List Sq) : List Nat := if qs.length = 0 then [0] else sqY (seqV1 qs) (numF lt qs).1 (seqV3 qs) (tbF 0 9 sy1 tH1 (seqV1 qs)) (tbF 1 8 sy2 tH2 (numF lt qs).1) (tbF 2 9 sy3 tH3 (seqV3 qs)) (mdY 0 9 sy1 tH1 (seqV1 qs)) (mdY 1 8 sy2 tH2 (numF lt qs).1) (mdY 2 9 sy3 tH3 (seqV3 qs)) qs.length
theorem sy1_lt (v : Nat) : sy1 v ≤ 35 := by have := (sy1_is v).1; omega
theorem sy3_lt (v : Nat) : sy3 v ≤ 52 := by have := (sy3_is v).1; omega
theorem sy2_lt (v : Nat) : sy2 v ≤ 31 := by have := (sy2_is v).1; omega
theorem syv_ok {sy : Nat → Nat} {l : Nat} {vs : List Nat} (hs : ∀ v, sy v ≤ l) (hl : l < 64) (h1 : 1 ≤ vs.length) (h2 : vs.length ≤ 2667) : SyOk (vs.map sy) ∧ ∀ s, s ∈ vs.map sy → s ≤ l := by
  have a : ∀ s, s ∈ vs.map sy → s ≤ l := fun s h => by
    obtain ⟨v, -, e⟩ := List.mem_map.mp h
    rw [← e]; exact hs v
  exact ⟨⟨fun s h => by have := a s h; omega, by rw [List.length_map]; exact h1, by rw [List.length_map]; exact h2⟩, a⟩
theorem v1_len (qs : List Sq) : (seqV1 qs).length = qs.length := by unfold seqV1; exact List.length_map ..
theorem v3_len (qs : List Sq) : (seqV3 qs).length = qs.length := by unfold seqV3; exact List.length_map ..
theorem B2_0 : B2 0 = 1 := (B2_pow 0 (by decide)).1
/-- the columns are in order -/
theorem cols_ok {tH1 tH2 tH3 : Option Tb} {lt : Sq} {qs : List Sq} (h1 : 1 ≤ qs.length) (h2 : qs.length ≤ 2667) (hq : ∀ q, q ∈ qs → SqB q) (hlt : LatOk lt) (hH1 : TbO 35 512 tH1) (hH2 : TbO 31 256 tH2) (hH3 : TbO 52 512 tH3) : KV1 (seqV1 qs) (tbF 0 9 sy1 tH1 (seqV1 qs)) qs.length ∧ KV2 (numF lt qs).1 (tbF 1 8 sy2 tH2 (numF lt qs).1) qs.length ∧ KV3 (seqV3 qs) (tbF 2 9 sy3 tH3 (seqV3 qs)) qs.length := by
  have hn := (num_all hlt hq).1
  obtain ⟨a1, b1⟩ := syv_ok (sy := sy1) (vs := seqV1 qs) sy1_lt (by decide) (by rw [v1_len]; exact h1) (by rw [v1_len]; exact h2)
  obtain ⟨a2, b2⟩ := syv_ok (sy := sy2) (vs := (numF lt qs).1) sy2_lt (by decide) (by rw [numF_len]; exact h1) (by rw [numF_len]; exact h2)
  obtain ⟨a3, b3⟩ := syv_ok (sy := sy3) (vs := seqV3 qs) sy3_lt (by decide) (by rw [v3_len]; exact h1) (by rw [v3_len]; exact h2)
  have c1 := ch_all (M := 512) (G := 9) a1 (by decide) (by decide) (by decide) rfl b1 (kn_ok (tb := 0) (by decide)) hH1
  have c2 := ch_all (M := 256) (G := 8) a2 (by decide) (by decide) (by decide) rfl b2 (kn_ok (tb := 1) (by decide)) hH2
  have c3 := ch_all (M := 512) (G := 9) a3 (by decide) (by decide) (by decide) rfl b3 (kn_ok (tb := 2) (by decide)) hH3
  have d1 := cv_of (vs := seqV1 qs) sy1_is wd1_13 (by decide : 35 < 64) (by decide : 512 < 2 ^ 20) (by decide) (fun v hv => by
    obtain ⟨q, hq1, e⟩ := List.mem_map.mp hv
    rw [← e, B1_0]; have := (hq q hq1).1; exact ⟨by omega, Nat.zero_le _⟩) c1.2.2.1 c1.2.2.2.1
  have d2 := cv_of (vs := (numF lt qs).1) sy2_is wd2_13 (by decide : 31 < 64) (by decide : 256 < 2 ^ 20) (by decide) (fun v hv => by rw [B2_0]; exact hn v hv) c2.2.2.1 c2.2.2.2.1
  have d3 := cv_of (vs := seqV3 qs) sy3_is wd3_13 (by decide : 52 < 64) (by decide : 512 < 2 ^ 20) (by decide) (fun v hv => by
    obtain ⟨q, hq1, e⟩ := List.mem_map.mp hv
    rw [← e, B3_0]; have := (hq q hq1); exact ⟨by have := this.2.2.1; omega, this.2.1⟩) c3.2.2.1 c3.2.2.2.1
  rw [v1_len] at d1
  rw [numF_len] at d2
  rw [v3_len] at d3
  exact ⟨d1, d2, d3⟩
/-- their cost in bits -/
noncomputable def seC (tH1 tH2 tH3 : Option Tb) (lt : Sq) (qs : List Sq) : Nat := ((chF (tKn 0) tH1 9 ((seqV1 qs).map sy1)).2 + (colF sy1 wd1 (seqV1 qs)).2.2) + ((chF (tKn 1) tH2 8 ((numF lt qs).1.map sy2)).2 + (colF sy2 wd2 (numF lt qs).1).2.2) + ((chF (tKn 2) tH3 9 ((seqV3 qs).map sy3)).2 + (colF sy3 wd3 (seqV3 qs)).2.2)
noncomputable def seTb (tH1 tH2 tH3 : Option Tb) (lt : Sq) (qs : List Sq) : Nat := (tbY ((seqV1 qs).map sy1) 9 (mdY 0 9 sy1 tH1 (seqV1 qs))).length + (tbY ((numF lt qs).1.map sy2) 8 (mdY 1 8 sy2 tH2 (numF lt qs).1)).length + (tbY ((seqV3 qs).map sy3) 9 (mdY 2 9 sy3 tH3 (seqV3 qs))).length
theorem se_len {tH1 tH2 tH3 : Option Tb} {lt : Sq} {qs : List Sq} (h1 : 1 ≤ qs.length) (h2 : qs.length ≤ 2667) (hq : ∀ q, q ∈ qs → SqB q) (hlt : LatOk lt) (hH1 : TbO 35 512 tH1) (hH2 : TbO 31 256 tH2) (hH3 : TbO 52 512 tH3) : 8 * seTb tH1 tH2 tH3 lt qs ≤ seC tH1 tH2 tH3 lt qs ∧ seC tH1 tH2 tH3 lt qs < 2 ^ 23 ∧ (seY tH1 tH2 tH3 lt qs).length = (cntY qs.length).length + 1 + seTb tH1 tH2 tH3 lt qs + ((seC tH1 tH2 tH3 lt qs - 8 * seTb tH1 tH2 tH3 lt qs) / 8 + 1) := by
  have hn := (num_all hlt hq).1
  obtain ⟨a1, b1⟩ := syv_ok (sy := sy1) (vs := seqV1 qs) sy1_lt (by decide) (by rw [v1_len]; exact h1) (by rw [v1_len]; exact h2)
  obtain ⟨a2, b2⟩ := syv_ok (sy := sy2) (vs := (numF lt qs).1) sy2_lt (by decide) (by rw [numF_len]; exact h1) (by rw [numF_len]; exact h2)
  obtain ⟨a3, b3⟩ := syv_ok (sy := sy3) (vs := seqV3 qs) sy3_lt (by decide) (by rw [v3_len]; exact h1) (by rw [v3_len]; exact h2)
  have c1 := ch_all (M := 512) (G := 9) a1 (by decide) (by decide) (by decide) rfl b1 (kn_ok (tb := 0) (by decide)) hH1
  have c2 := ch_all (M := 256) (G := 8) a2 (by decide) (by decide) (by decide) rfl b2 (kn_ok (tb := 1) (by decide)) hH2
  have c3 := ch_all (M := 512) (G := 9) a3 (by decide) (by decide) (by decide) rfl b3 (kn_ok (tb := 2) (by decide)) hH3
  obtain ⟨k1, k2, k3⟩ := cols_ok h1 h2 hq hlt hH1 hH2 hH3
  have sb := seq_bits k1.2.1 k2.2.1 k3.2.1 h1
  have w1 := colF_all sy1 wd1 (seqV1 qs)
  have w2 := colF_all sy2 wd2 (numF lt qs).1
  have w3 := colF_all sy3 wd3 (seqV3 qs)
  rw [v1_len] at w1
  rw [numF_len] at w2
  rw [v3_len] at w3
  have u1 := (colF_le sy1 wd1 (W := 16) (fun s => wd_le (j := 4) (N := 36) (by decide) (by decide +kernel) s) (seqV1 qs)).2.2
  have u2 := (colF_le sy2 wd2 (W := 16) (fun s => wd_le (j := 6) (N := 17) (by decide) (by decide +kernel) s) (numF lt qs).1).2.2
  have u3 := (colF_le sy3 wd3 (W := 16) (fun s => wd_le (j := 8) (N := 53) (by decide) (by decide +kernel) s) (seqV3 qs)).2.2
  rw [v1_len] at u1
  rw [numF_len] at u2
  rw [v3_len] at u3
  have e1 := c1.2.2.2.2
  have e2 := c2.2.2.2.2
  have e3 := c3.2.2.2.2
  have f1 := c1.2.1
  have f2 := c2.2.1
  have f3 := c3.2.1
  change (seqB _ _ _ _).1 = rcF (tbF 0 9 sy1 tH1 (seqV1 qs)).2 64 (tbF 0 9 sy1 tH1 (seqV1 qs)).1 ((seqV1 qs).map sy1) + rcF (tbF 1 8 sy2 tH2 (numF lt qs).1).2 64 (tbF 1 8 sy2 tH2 (numF lt qs).1).1 ((numF lt qs).1.map sy2) + rcF (tbF 2 9 sy3 tH3 (seqV3 qs)).2 64 (tbF 2 9 sy3 tH3 (seqV3 qs)).1 ((seqV3 qs).map sy3) + sumN (fun i => wd1 (sy1 ((seqV1 qs).getD i 0))) qs.length + sumN (fun i => wd2 (sy2 ((numF lt qs).1.getD i 0))) qs.length + sumN (fun i => wd3 (sy3 ((seqV3 qs).getD i 0))) qs.length at sb
  change (chF (tKn 0) tH1 9 ((seqV1 qs).map sy1)).2 = 8 * (tbY ((seqV1 qs).map sy1) 9 (mdY 0 9 sy1 tH1 (seqV1 qs))).length + rcF (tbF 0 9 sy1 tH1 (seqV1 qs)).2 64 (tbF 0 9 sy1 tH1 (seqV1 qs)).1 ((seqV1 qs).map sy1) at e1
  change (chF (tKn 1) tH2 8 ((numF lt qs).1.map sy2)).2 = 8 * (tbY ((numF lt qs).1.map sy2) 8 (mdY 1 8 sy2 tH2 (numF lt qs).1)).length + rcF (tbF 1 8 sy2 tH2 (numF lt qs).1).2 64 (tbF 1 8 sy2 tH2 (numF lt qs).1).1 ((numF lt qs).1.map sy2) at e2
  change (chF (tKn 2) tH3 9 ((seqV3 qs).map sy3)).2 = 8 * (tbY ((seqV3 qs).map sy3) 9 (mdY 2 9 sy3 tH3 (seqV3 qs))).length + rcF (tbF 2 9 sy3 tH3 (seqV3 qs)).2 64 (tbF 2 9 sy3 tH3 (seqV3 qs)).1 ((seqV3 qs).map sy3) at e3
  rw [← w1, ← w2, ← w3] at sb
  have hC : seC tH1 tH2 tH3 lt qs = 8 * seTb tH1 tH2 tH3 lt qs + (seqB (KL1 (seqV1 qs) (tbF 0 9 sy1 tH1 (seqV1 qs))) (KL2 (numF lt qs).1 (tbF 1 8 sy2 tH2 (numF lt qs).1)) (KL3 (seqV3 qs) (tbF 2 9 sy3 tH3 (seqV3 qs))) qs.length).1 := by
    rw [sb]
    unfold seC seTb
    omega
  refine ⟨by omega, ?_, ?_⟩
  · unfold seC
    omega
  · rw [hC, Nat.add_sub_cancel_left]
    unfold seY
    rw [if_neg (by omega)]
    unfold sqY seqY
    simp only [List.length_append, leBy_len, List.length_cons, List.length_nil]
    unfold seTb
    omega
def sameB (D : Nat → Nat) (f e : Nat) : Bool := decide (f < e) && (List.range (e - f)).all (fun i => decide (D (f + i) = D f))
theorem sameB_iff {D : Nat → Nat} {f e : Nat} : sameB D f e = true ↔ (f < e ∧ ∀ k, f ≤ k → k < e → D k = D f) := by
  unfold sameB
  rw [Bool.and_eq_true, decide_eq_true_eq, List.all_eq_true]
  constructor
  · intro h
    refine ⟨h.1, fun k h1 h2 => ?_⟩
    have := h.2 (k - f) (List.mem_range.mpr (by omega))
    rw [decide_eq_true_eq, show f + (k - f) = k by omega] at this
    exact this
  · intro h
    refine ⟨h.1, fun i hi => ?_⟩
    have := List.mem_range.mp hi
    rw [decide_eq_true_eq]
    exact h.2 (f + i) (by omega) (by omega)
