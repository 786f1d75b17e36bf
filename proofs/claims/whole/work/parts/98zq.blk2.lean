/-! a block: what it says and leaves; the class's state as it lies -/
abbrev PkS : Type := Option Le × Option Tb × Option Tb × Option Tb × Sq × (Nat → Nat)
def PkOk (S : PkS) : Prop := LeO S.1 ∧ (TbO 35 512 S.2.1 ∧ TbO 31 256 S.2.2.1 ∧ TbO 52 512 S.2.2.2.1) ∧ LatOk S.2.2.2.2.1 ∧ Alo S.2.1 ∧ Alo S.2.2.1 ∧ Alo S.2.2.2.1
noncomputable def blkP (ls : List Nat) (qs : List Sq) (S : PkS) : List Nat := litY S.1 ls ++ seY S.2.1 S.2.2.1 S.2.2.2.1 S.2.2.2.2.1 qs
def ntAt (nt : Nat → Nat) (q d : Nat) : Nat → Nat := fun x => nt x + (if x = q then d else 0)
noncomputable def blkN (ls : List Nat) (qs : List Sq) (S : PkS) : Nat → Nat := fun x => S.2.2.2.2.2 x + (if x = 2 then 1 else 0) + (if x = 3 then qs.length else 0) + (if x = 4 + (litF S.1 ls).1 then 1 else 0) + (if qs.length = 0 then 0 else (if x = 8 + mdY 0 9 sy1 S.2.1 (seqV1 qs) then 1 else 0) + (if x = 8 + mdY 1 8 sy2 S.2.2.1 (numF S.2.2.2.2.1 qs).1 then 1 else 0) + (if x = 8 + mdY 2 9 sy3 S.2.2.2.1 (seqV3 qs) then 1 else 0))
noncomputable def blkK (ls : List Nat) (qs : List Sq) (S : PkS) : PkS := (litT S.1 ls, if qs.length = 0 then S.2.1 else some (tbF 0 9 sy1 S.2.1 (seqV1 qs)), if qs.length = 0 then S.2.2.1 else some (tbF 1 8 sy2 S.2.2.1 (numF S.2.2.2.2.1 qs).1), if qs.length = 0 then S.2.2.2.1 else some (tbF 2 9 sy3 S.2.2.2.1 (seqV3 qs)), (numF S.2.2.2.2.1 qs).2, blkN ls qs S)
def pkNt (S : PkS) (nt : Nat → Nat) : PkS := (S.1, S.2.1, S.2.2.1, S.2.2.2.1, S.2.2.2.2.1, nt)
noncomputable def blkB (D : Nat → Nat) (way least win f e la : Nat) (S : PkS) : List Nat := if sameB D f e = true then leBy (8 * (e - f) + 2 + la) 3 ++ [D f] else if (blkP (goE D way least win e f).2.2.1 (goE D way least win e f).2.2.2 S).length < e - f then leBy (8 * (blkP (goE D way least win e f).2.2.1 (goE D way least win e f).2.2.2 S).length + 4 + la) 3 ++ blkP (goE D way least win e f).2.2.1 (goE D way least win e f).2.2.2 S else leBy (8 * (e - f) + la) 3 ++ (List.range (e - f)).map (fun i => D (f + i))
noncomputable def blkT (D : Nat → Nat) (way least win f e : Nat) (S : PkS) : PkS := if sameB D f e = true then pkNt S (ntAt S.2.2.2.2.2 1 1) else if (blkP (goE D way least win e f).2.2.1 (goE D way least win e f).2.2.2 S).length < e - f then blkK (goE D way least win e f).2.2.1 (goE D way least win e f).2.2.2 S else pkNt S (ntAt S.2.2.2.2.2 0 1)
theorem chT_alo {tb G : Nat} {sy : Nat → Nat} {tH : Option Tb} {vs : List Nat} {l : Nat} (htb : tb < 3) (hs : SyOk (vs.map sy)) (h6 : 6 ≤ G) (h9 : G ≤ 9) (hA : Alo tH) (hm : mdY tb G sy tH vs ≤ 3) (h3 : mdY tb G sy tH vs = 3 → ∃ t, tH = some t) : Alo (some (tbF tb G sy tH vs)) := by
  intro x hx h0
  have e := Option.some.inj hx
  rw [← e] at h0 ⊢
  unfold tbF chT at h0 ⊢
  split at h0
  · unfold tKn kO at h0
    split at h0
    · exact absurd (show 5 = 0 from h0) (by decide)
    · exact absurd (show 6 = 0 from h0) (by decide)
  · rename_i q0
    rw [if_neg q0]
    split at h0
    · rename_i q1
      rw [if_pos q1]
      exact ⟨_, rfl⟩
    · rename_i q1
      rw [if_neg q1]
      split at h0
      · have := (bo_fin hs h6 h9).1
        exact absurd (show (boF (vs.map sy) (G - 4)).1 = 0 from h0) (by omega)
      · rename_i q2
        rw [if_neg q2]
        obtain ⟨t, e⟩ := h3 (by omega)
        rw [e] at h0 ⊢
        exact hA t e h0
theorem ch_3 {tK : Tb} {tH : Option Tb} {G : Nat} {ss : List Nat} (hc : ∀ b : Nat × Nat, b = chC (boF ss (G - 4)) (chB (cdF ss).2 (chA (tabC tK ss))) → b.1 ≠ 3) : (chF tK tH G ss).1 = 3 → ∃ t, tH = some t := by
  intro h
  cases tH with
  | none => exact absurd h (hc _ rfl)
  | some t => exact ⟨t, rfl⟩
theorem chC_n3 {tK : Tb} {G : Nat} {ss : List Nat} : ∀ b : Nat × Nat, b = chC (boF ss (G - 4)) (chB (cdF ss).2 (chA (tabC tK ss))) → b.1 ≠ 3 := by
  intro b hb
  rw [hb]
  unfold chC
  split
  · exact (by decide : 2 ≠ 3)
  · unfold chB
    split
    · exact (by decide : 1 ≠ 3)
    · unfold chA
      split
      · exact (by decide : 0 ≠ 3)
      · exact (by decide : 9 ≠ 3)
theorem blkK_ok {S : PkS} {ls : List Nat} {qs : List Sq} (h : PkOk S) (hls : LsOk ls) (h2 : qs.length ≤ 2667) (hq : ∀ q, q ∈ qs → SqB q) : PkOk (blkK ls qs S) := by
  obtain ⟨a, ⟨b1, b2, b3⟩, c, d1, d2, d3⟩ := h
  have hn := num_all c hq
  refine ⟨lit_ok2 hls a, ?_, hn.2, ?_⟩
  · by_cases h0 : qs.length = 0
    · unfold blkK
      simp only [if_pos h0]
      exact ⟨b1, b2, b3⟩
    · obtain ⟨k1, k2, k3⟩ := cols_ok (by omega) h2 hq c b1 b2 b3
      unfold blkK
      simp only [if_neg h0]
      exact ⟨k1.2.2.1, k2.2.2.1, k3.2.2.1⟩
  · by_cases h0 : qs.length = 0
    · unfold blkK
      simp only [if_pos h0]
      exact ⟨d1, d2, d3⟩
    · obtain ⟨a1, e1⟩ := syv_ok (sy := sy1) (vs := seqV1 qs) sy1_lt (by decide) (by rw [v1_len]; omega) (by rw [v1_len]; exact h2)
      obtain ⟨a2, e2⟩ := syv_ok (sy := sy2) (vs := (numF S.2.2.2.2.1 qs).1) sy2_lt (by decide) (by rw [numF_len]; omega) (by rw [numF_len]; exact h2)
      obtain ⟨a3, e3⟩ := syv_ok (sy := sy3) (vs := seqV3 qs) sy3_lt (by decide) (by rw [v3_len]; omega) (by rw [v3_len]; exact h2)
      have c1 := ch_all (M := 512) (G := 9) a1 (by decide) (by decide) (by decide) rfl e1 (kn_ok (tb := 0) (by decide)) b1
      have c2 := ch_all (M := 256) (G := 8) a2 (by decide) (by decide) (by decide) rfl e2 (kn_ok (tb := 1) (by decide)) b2
      have c3 := ch_all (M := 512) (G := 9) a3 (by decide) (by decide) (by decide) rfl e3 (kn_ok (tb := 2) (by decide)) b3
      unfold blkK
      simp only [if_neg h0]
      exact ⟨chT_alo (l := 0) (by decide) a1 (by decide) (by decide) d1 c1.1 (ch_3 chC_n3), chT_alo (l := 0) (by decide) a2 (by decide) (by decide) d2 c2.1 (ch_3 chC_n3), chT_alo (l := 0) (by decide) a3 (by decide) (by decide) d3 c3.1 (ch_3 chC_n3)⟩
theorem goE_ok {D : Nat → Nat} {way least win e f : Nat} (hl : 3 ≤ least) (hf : f ≤ e) (he : e ≤ 16000) (hfe : e - f ≤ 8000) (hD : ∀ i, i < e → D i < 256) : LsOk (goE D way least win e f).2.2.1 ∧ (goE D way least win e f).2.2.2.length ≤ 2667 ∧ ∀ q, q ∈ (goE D way least win e f).2.2.2 → SqB q := by
  have a := goN_q (way := way) (win := win) hl hf he hD (e - f)
  have b := goN_ok (D := D) (way := way) (win := win) hl hf (e - f)
  obtain ⟨b1, b2, b3, b4⟩ := b
  unfold goE
  exact ⟨⟨a.1, by omega⟩, by omega, a.2⟩
theorem blkT_ok {D : Nat → Nat} {way least win e f : Nat} {S : PkS} (hl : 3 ≤ least) (hf : f ≤ e) (he : e ≤ 16000) (hfe : e - f ≤ 8000) (hD : ∀ i, i < e → D i < 256) (h : PkOk S) : PkOk (blkT D way least win f e S) := by
  obtain ⟨a, b, c⟩ := goE_ok (way := way) (win := win) hl hf he hfe hD
  unfold blkT
  split
  · exact h
  · split
    · exact blkK_ok h a b c
    · exact h
/-- the class's cells -/
def ColX (h : Nat → aE) (c j k G l M NB NW : Nat) (B sy wd : Nat → Nat) (tK : Tb) (tH : Option Tb) : Prop := ∃ (cho : Nat) (ln di ad mo bi ob sta : Int32) (yA vA cA : Nat → Int32), h c = .inr (1, [.ref (aBig + j), .ref (aBig + k), .int (nI G), .ref (c + 1), .ref (c + 2), .ref (c + 5), .int ln, .int di, .int ad, .ref (c + 6), .ref (c + 13), .ref (c + 20), .ref cho, .ref (c + 3), .int mo, .int bi, .int ob, .int sta]) ∧ h (c + 1) = .inl (1, 2667, .inl yA) ∧ h (c + 2) = .inl (1, 2667, .inl vA) ∧ h (c + 5) = .inl (1, l + 1, .inl cA) ∧ RowE h (c + 3) 128 ∧ ShT h (c + 6) l M tK.1 tK.2 ∧ HeldT h (c + 13) l M tH ∧ ShX h (c + 20) l M ∧ ColP h j k l NB NW B sy wd
theorem ColX.zfr {h h1 : Nat → aE} {A : Nat → Prop} {c j k G l M NB NW : Nat} {B sy wd : Nat → Nat} {tK : Tb} {tH : Option Tb} (r : ColX h c j k G l M NB NW B sy wd tK tH) (f : Fr h h1 A) (q : ∀ x, c ≤ x → x ≤ c + 26 → ¬ A x) (q1 : ¬ A (aBig + j)) (q2 : ¬ A (aBig + k)) : ColX h1 c j k G l M NB NW B sy wd tK tH := by
  obtain ⟨cho, ln, di, ad, mo, bi, ob, sta, yA, vA, cA, a, b, c1, d, e, g, i, jj, kk⟩ := r
  exact ⟨cho, ln, di, ad, mo, bi, ob, sta, yA, vA, cA, (f _ (q _ (by omega) (by omega))).trans a, (f _ (q _ (by omega) (by omega))).trans b, (f _ (q _ (by omega) (by omega))).trans c1, (f _ (q _ (by omega) (by omega))).trans d, e.zfr f (q _ (by omega) (by omega)) (q _ (by omega) (by omega)), g.zfr f (fun x h1 h2 => q _ (by omega) (by omega)), i.zfr f (fun x h1 h2 => q _ (by omega) (by omega)), jj.zfr f (fun x h1 h2 => q _ (by omega) (by omega)), kk.zfr f q1 q2⟩
abbrev CX1 (h : Nat → aE) (tH : Option Tb) : Prop := ColX h 108 3 4 9 35 512 36 36 B1 sy1 wd1 (tKn 0) tH
abbrev CX2 (h : Nat → aE) (tH : Option Tb) : Prop := ColX h 135 5 6 8 31 256 17 17 B2 sy2 wd2 (tKn 1) tH
abbrev CX3 (h : Nat → aE) (tH : Option Tb) : Prop := ColX h 162 7 8 9 52 512 53 53 B3 sy3 wd3 (tKn 2) tH
def LiX (h : Nat → aE) (tC : Option Le) : Prop := ∃ (u ki by_ sh be : Int32) (yA cA : Nat → Int32), h 89 = .inr (5, [.ref 90, .ref 91, .int u, .ref 92, .ref 96, .ref 100, .ref 67, .ref 106, .int ki, .int by_, .int sh, .int be]) ∧ h 90 = .inl (0, 8000, .inl yA) ∧ h 91 = .inl (1, 256, .inl cA) ∧ CoH h 92 tC ∧ CoX h 96 ∧ KnX h ∧ RowE h 106 256
theorem LiX.zfr {h h1 : Nat → aE} {A : Nat → Prop} {tC : Option Le} (r : LiX h tC) (f : Fr h h1 A) (q : ∀ x, 89 ≤ x → x ≤ 107 → ¬ A x) : LiX h1 tC := by
  obtain ⟨u, ki, by_, sh, be, yA, cA, a, b, c, d, e, g, i⟩ := r
  exact ⟨u, ki, by_, sh, be, yA, cA, (f _ (q _ (by omega) (by omega))).trans a, (f _ (q _ (by omega) (by omega))).trans b, (f _ (q _ (by omega) (by omega))).trans c, d.zfr f (fun x h1 h2 => q _ (by omega) (by omega)), e.zfr f (fun x h1 h2 => q _ (by omega) (by omega)), g.zfr f (fun x h1 h2 => q _ (by omega) (by omega)), i.zfr f (q _ (by omega) (by omega)) (q _ (by omega) (by omega))⟩
def FiX (h : Nat → aE) (D H : Nat → Nat) (U way least win : Nat) : Prop := ∃ (fe fle fdi fap fal fad : Int32) (dA eA hA : Nat → Int32), h 82 = .inr (3, [.ref 83, .int (nI U), .ref 84, .ref 85, .int (nI way), .int (nI least), .int (nI win), .int fe, .int fle, .int fdi, .int fap, .int fal, .int fad]) ∧ h 83 = .inl (0, 16000, .inl dA) ∧ h 84 = .inl (1, 16000, .inl eA) ∧ h 85 = .inl (1, 4096, .inl hA) ∧ (∀ i, i < U → D i < 256 ∧ dA i = sb_b (D i)) ∧ ChainAt H U eA
theorem FiX.zfr {h h1 : Nat → aE} {A : Nat → Prop} {D H : Nat → Nat} {U way least win : Nat} (r : FiX h D H U way least win) (f : Fr h h1 A) (q : ∀ x, 82 ≤ x → x ≤ 85 → ¬ A x) : FiX h1 D H U way least win := by
  obtain ⟨fe, fle, fdi, fap, fal, fad, dA, eA, hA, a, b, c, d, e⟩ := r
  exact ⟨fe, fle, fdi, fap, fal, fad, dA, eA, hA, (f _ (q _ (by omega) (by omega))).trans a, (f _ (q _ (by omega) (by omega))).trans b, (f _ (q _ (by omega) (by omega))).trans c, (f _ (q _ (by omega) (by omega))).trans d, e⟩
def TlA (h : Nat → aE) (nt : Nat → Nat) : Prop := ∃ g : Nat → Int32, h 88 = .inl (1, 12, .inl g) ∧ ∀ q, q < 12 → g q = nI (nt q)
theorem TlA.zfr {h h1 : Nat → aE} {A : Nat → Prop} {nt : Nat → Nat} (r : TlA h nt) (f : Fr h h1 A) (q : ¬ A 88) : TlA h1 nt := by
  obtain ⟨g, a, b⟩ := r
  exact ⟨g, (f _ q).trans a, b⟩
def PaX (h : Nat → aE) (cnt : Int32) : Prop := h 81 = .inr (6, [.ref 82, .ref 89, .ref 108, .ref 135, .ref 162, .ref 86, .ref 87, .int cnt, .ref 88])
def LaX (h : Nat → aE) : Prop := ∃ a : Nat → Int32, h 87 = .inl (1, 3, .inl a)
def PkX (h : Nat → aE) (D H : Nat → Nat) (U way least win : Nat) (S : PkS) : Prop := (∃ cnt, PaX h cnt) ∧ LaX h ∧ LatA h 86 S.2.2.2.2.1 ∧ TlA h S.2.2.2.2.2 ∧ FiX h D H U way least win ∧ LiX h S.1 ∧ DX h ∧ CX1 h S.2.1 ∧ CX2 h S.2.2.1 ∧ CX3 h S.2.2.2.1
theorem PkX.zfr {h h1 : Nat → aE} {A : Nat → Prop} {D H : Nat → Nat} {U way least win : Nat} {S : PkS} (r : PkX h D H U way least win S) (f : Fr h h1 A) (q : ∀ x, 67 ≤ x → x ≤ 188 → ¬ A x) (q2 : ∀ x, aBig ≤ x → ¬ A x) : PkX h1 D H U way least win S := by
  obtain ⟨⟨cnt, a⟩, ⟨ar, b⟩, c, d, e, g, i, j, k, l⟩ := r
  exact ⟨⟨cnt, (f _ (q _ (by omega) (by omega))).trans a⟩, ⟨ar, (f _ (q _ (by omega) (by omega))).trans b⟩, c.zfr f (q _ (by omega) (by omega)), d.zfr f (q _ (by omega) (by omega)), e.zfr f (fun x h1 h2 => q _ (by omega) (by omega)), g.zfr f (fun x h1 h2 => q _ (by omega) (by omega)), i.zfr f (fun x h1 h2 => q _ (by omega) (by omega)), j.zfr f (fun x h1 h2 => q _ (by omega) (by omega)) (q2 _ (Nat.le_add_right _ _)) (q2 _ (Nat.le_add_right _ _)), k.zfr f (fun x h1 h2 => q _ (by omega) (by omega)) (q2 _ (Nat.le_add_right _ _)) (q2 _ (Nat.le_add_right _ _)), l.zfr f (fun x h1 h2 => q _ (by omega) (by omega)) (q2 _ (Nat.le_add_right _ _)) (q2 _ (Nat.le_add_right _ _))⟩
/-- behind renew -/
def LiR (h : Nat → aE) (ls : List Nat) (rn : Nat) : Prop := (rn = 1 ∧ ls ≠ [] ∧ ¬ Alk ls ∧ ∃ y, dsY (wtL (dF (cL ls)) (topF (cL ls))) = some y ∧ CoT h 96 (dF (cL ls)) (topF (cL ls)) ∧ RowIs h 106 256 (some y) 0 0 ∧ y.length ≤ 129) ∨ (rn = 0 ∧ (∀ tC, litF tC ls = lc3 tC ls (lc1 ls)) ∧ CoX h 96 ∧ RowE h 106 256)
theorem LiR.zfr {h h1 : Nat → aE} {A : Nat → Prop} {ls : List Nat} {rn : Nat} (r : LiR h ls rn) (f : Fr h h1 A) (q : ∀ x, 96 ≤ x → x ≤ 107 → ¬ A x) : LiR h1 ls rn := by
  rcases r with ⟨a, b, c, y, d, e, g, i⟩ | ⟨a, b, c, d⟩
  · exact Or.inl ⟨a, b, c, y, d, e.zfr f (fun x h1 h2 => q _ (by omega) (by omega)), g.zfr f (q _ (by omega) (by omega)) (q _ (by omega) (by omega)), i⟩
  · exact Or.inr ⟨a, b, c.zfr f (fun x h1 h2 => q _ (by omega) (by omega)), d.zfr f (q _ (by omega) (by omega)) (q _ (by omega) (by omega))⟩
theorem LiR.toX {h : Nat → aE} {ls : List Nat} {rn : Nat} (r : LiR h ls rn) : CoX h 96 ∧ RowE h 106 256 := by
  rcases r with ⟨a, b, c, y, d, e, g, i⟩ | ⟨a, b, c, d⟩
  · exact ⟨e.toX, g.toE⟩
  · exact ⟨c, d⟩
theorem litF_r {tC : Option Le} {ls : List Nat} {y : List Nat} (h0 : ls ≠ []) (ha : ¬ Alk ls) (e : dsY (wtL (dF (cL ls)) (topF (cL ls))) = some y) : litF tC ls = lc2 (some y) (dF (cL ls)) ls (lc3 tC ls (lc1 ls)) := by
  unfold litF
  rw [if_pos, e]
  refine ⟨?_, ha⟩
  rcases ls with _ | ⟨a, _ | ⟨b, l⟩⟩
  · exact absurd rfl h0
  · exact absurd ⟨fun z => (nomatch z), fun s hs => by rw [List.mem_singleton.mp hs]; rfl⟩ ha
  · show 2 ≤ l.length + 1 + 1
    omega
theorem litF_n {tC : Option Le} {ls : List Nat} (h : ls = [] ∨ Alk ls) : litF tC ls = lc3 tC ls (lc1 ls) := by
  unfold litF
  rw [if_neg]
  rintro ⟨a, b⟩
  rcases h with h | h
  · rw [h] at a; exact absurd a (by decide)
  · exact b h
theorem litF_d {tC : Option Le} {ls : List Nat} (e : dsY (wtL (dF (cL ls)) (topF (cL ls))) = none) : litF tC ls = lc3 tC ls (lc1 ls) := by
  unfold litF
  split
  · rw [e]; rfl
  · rfl
theorem lc3_n2 {tC : Option Le} {ls : List Nat} : (lc3 tC ls (lc1 ls)).1 ≠ 2 := by
  rcases lc3_cs (tC := tC) (ls := ls) (lc1 ls) with e | ⟨t, -, -, -, -, e⟩
  · rw [e]; have := lc1_1 ls; omega
  · rw [e]; exact (by decide : 3 ≠ 2)
theorem xl_choose {d n s : Nat} {h : Nat → aE} {ls : List Nat} {tC : Option Le} {ki by_ sh be : Int32} {rn : Nat} (hn : 190 ≤ n) (hls : LsOk ls) (hA : LitA h ls) (F : h 89 = .inr (5, [.ref 90, .ref 91, .int (nI ls.length), .ref 92, .ref 96, .ref 100, .ref 67, .ref 106, .int ki, .int by_, .int sh, .int be])) (he : CoH h 92 tC) (hR : LiR h ls rn) {Ψ : Option Value → aH → Prop} (kk : ∀ h', Fr h h' (fun j => j = 89) → LiS h' ls (litF tC ls) → Ψ (some (.int (nI (litF tC ls).2.1))) (n, s, h')) : WO (mM (d + 4)) 57 [.ref 89, .int (nI rn)] (n, s, h) Ψ := by
  rcases hR with ⟨a, b, c, y, dd, e, g, i⟩ | ⟨a, b, c, dd⟩
  · rw [litF_r b c dd] at kk
    subst a
    exact x_lchS hn hls hA i F he e g kk
  · rw [b tC] at kk
    subst a
    exact x_lchN hn hls hA F he kk
set_option maxRecDepth 20000 in
theorem x_lPut01 {d n s : Nat} {h : Nat → aE} {r RN k : Nat} {ls : List Nat} {bb : Option (List Nat)} {yA : Nat → Int32} {by_ sh be : Int32} (hn : 190 ≤ n) (hr : r + 1 < 67) (hRN : RN < 2 ^ 31) (hk : k = 0 ∨ (k = 1 ∧ 1 ≤ ls.length)) (hls : LsOk ls) (hy : ∀ i, i < ls.length → ls.getD i 0 < 256 ∧ yA i = sb_b (ls.getD i 0)) (F_h_89 : h 89 = .inr (5, [.ref 90, .ref 91, .int (nI ls.length), .ref 92, .ref 96, .ref 100, .ref 67, .ref 106, .int (nI k), .int by_, .int sh, .int be])) (F_h_90 : h 90 = .inl (0, 8000, .inl yA)) (P_h_row : RowIs h r RN bb 0 0) {Ψ : Option Value → aH → Prop} (kk : ∀ h', Fr h h' (fun j => j = r ∨ j = r + 1) → RowIs h' r RN (bputs RN bb (plY k ls)) 0 0 → Ψ none (n, s, h')) : WO (mM (d + 5)) 63 [.ref 89, .ref r] (n, s, h) Ψ := by
  refine WO.of (Nat.le_of_ble_eq_true rfl) ?_
  have FR_h : Fr h h (fun j => j = r ∨ j = r + 1) := Fr.rf
  show WX (lk tX5_put) (mM (d + 4)) Ψ 0 [(0, .ref 89), (1, .ref r)] [] (n, s, h)
  refine WX.s1 rfl rfl ?_
  refine WX.get1 (fs := [.ref 90, .ref 91, .int (nI ls.length), .ref 92, .ref 96, .ref 100, .ref 67, .ref 106, .int (nI k), .int by_, .int sh, .int be]) rfl (by omega) (F_h_89) rfl ?_
  refine WX.s1 rfl rfl ?_
  refine WX.icmp rfl (fun c_5 => absurd c_5 (fun zz_ => absurd ((nI_leI (a := 2) (b := k) (by omega) (by omega)).mp zz_) (Nat.not_le.mpr (by omega)))) (fun c_5 => ?_)
  clear c_5
  refine WX.s1 rfl rfl ?_
  refine WX.s1 rfl rfl ?_
  refine WX.callC (vs := [.ref 89, .ref r]) rfl rfl rfl (Nat.le_of_ble_eq_true rfl) (rcv_ok (by omega) F_h_89) ?_
  refine x_lPlain hn hr hRN hk hls hy F_h_89 F_h_90 P_h_row (fun h10 fr10 P_h10_row => ?_)
  have F_h10_89 : h10 89 = .inr (5, [.ref 90, .ref 91, .int (nI ls.length), .ref 92, .ref 96, .ref 100, .ref 67, .ref 106, .int (nI k), .int by_, .int sh, .int be]) := (fr10 _ (by first | decide | omega)).trans F_h_89
  have F_h10_90 : h10 90 = .inl (0, 8000, .inl yA) := (fr10 _ (by first | decide | omega)).trans F_h_90
  have FR_h10 : Fr h h10 (fun j => j = r ∨ j = r + 1) := FR_h.zsub fr10 (fun j hj => hj)
  show WX _ _ _ 13 [(0, .ref 89), (1, .ref r)] [] (n, s, h10)
  exact WX.ret0 rfl (kk h10 FR_h10 P_h10_row)
theorem xl_put {d n s : Nat} {h : Nat → aE} {r RN : Nat} {ls : List Nat} {tC : Option Le} {rn : Nat} {bb : Option (List Nat)} (hn : 190 ≤ n) (hr : r + 1 < 67) (hRN : RN < 2 ^ 31) (hls : LsOk ls) (hA : LitA h ls) (hS : LiS h ls (litF tC ls)) (he : CoH h 92 tC) (hR : LiR h ls rn) (P : RowIs h r RN bb 0 0) {Ψ : Option Value → aH → Prop} (kk : ∀ h', Fr h h' (fun j => j = r ∨ j = r + 1) → RowIs h' r RN (bputs RN bb (litY tC ls)) 0 0 → Ψ none (n, s, h')) : WO (mM (d + 5)) 63 [.ref 89, .ref r] (n, s, h) Ψ := by
  obtain ⟨sh, be, F, hsb⟩ := hS
  obtain ⟨lA, cA, F90, -, hy, -⟩ := lit_ok hA
  have hb1 := lc1_bd hls.2
  rcases lit_cs tC ls with e | ⟨t, e1, e2, e⟩ | ⟨y, e1, e2, e3, e⟩
  · have eY : litY tC ls = plY (lc1 ls).1 ls := by
      unfold litY
      rw [e, if_pos (lc1_1 ls)]
    rw [eY] at kk
    rw [e] at F
    have hk : (lc1 ls).1 = 0 ∨ ((lc1 ls).1 = 1 ∧ 1 ≤ ls.length) := by
      rcases Nat.lt_or_ge (lc1 ls).1 1 with q | q
      · exact Or.inl (by omega)
      · exact Or.inr ⟨by omega, hb1.2.2 (by omega)⟩
    exact x_lPut01 hn hr hRN hk hls hy F F90 P kk
  · subst e1
    have eY : litY (some t) ls = hdY 3 (tob t.1 ls) ls ++ stmY t.1 t.2 ls := by
      unfold litY
      rw [e]
      rfl
    rw [eY] at kk
    rw [e] at F hsb
    obtain ⟨q1, q2⟩ := hsb (by decide : 2 ≤ 3)
    rw [q1, q2] at F
    have hC : CoT h 92 t.1 t.2 := he
    have hl : ∀ s, s < 256 → t.1 s ≤ 11 := by
      obtain ⟨_, _, _, -, hD⟩ := id hC
      intro s hs
      have := hD.2.2.2.2.1 s hs
      have := hD.2.2.2.1
      omega
    have ht := tob_le hl hls
    exact x_lPut3 hn hr hRN hls (show tob t.1 ls < 16384 by omega) e2 hy F F90 P hC kk
  · have eY : litY tC ls = hdY 2 (y.length + tob (dF (cL ls)) ls) ls ++ (y ++ stmY (dF (cL ls)) (topF (cL ls)) ls) := by
      unfold litY
      rw [e, e1]
      rfl
    rw [eY] at kk
    rw [e] at F hsb
    obtain ⟨q1, q2⟩ := hsb (by decide : 2 ≤ 2)
    rw [q1, q2] at F
    rcases hR with ⟨-, -, -, y2, dd, hC, g, i⟩ | ⟨a, b, c, dd⟩
    · have ey : y2 = y := Option.some.inj (dd.symm.trans e1)
      subst ey
      have hok := len_cL hls (two_alk hls e2 e3)
      have hl : ∀ s, s < 256 → dF (cL ls) s ≤ 11 := fun s hs => Nat.le_trans (hok.1.2.2.1 s hs) hok.1.2.1
      have ht := tob_le hl hls
      exact x_lPut2 hn hr hRN hls (show y2.length + tob (dF (cL ls)) ls < 16384 by omega) hok.2.1 hy F F90 P hC g kk
    · have z := b tC
      rw [e] at z
      exact absurd (congrArg (fun x : LC => x.1) z).symm lc3_n2
theorem xl_keep {d n s : Nat} {h : Nat → aE} {ls : List Nat} {tC : Option Le} {rn : Nat} (hn : 190 ≤ n) (hls : LsOk ls) (hS : LiS h ls (litF tC ls)) (he : CoH h 92 tC) (hR : LiR h ls rn) {Ψ : Option Value → aH → Prop} (kk : ∀ h', Fr h h' (fun j => 92 ≤ j ∧ j ≤ 95) → CoH h' 92 (litT tC ls) → Ψ none (n, s, h')) : WO (mM (d + 2)) 67 [.ref 89] (n, s, h) Ψ := by
  obtain ⟨sh, be, F, hsb⟩ := hS
  by_cases h2 : (litF tC ls).1 = 2
  · have eT : litT tC ls = some (dF (cL ls), topF (cL ls)) := if_pos h2
    rw [eT] at kk
    rw [h2] at F
    rcases hR with ⟨-, -, -, y2, dd, hC, g, i⟩ | ⟨a, b, c, dd⟩
    · exact x_lKeep2 hn he.toX hC F kk
    · rw [b tC] at h2
      exact absurd h2 lc3_n2
  · have eT : litT tC ls = tC := if_neg h2
    rw [eT] at kk
    exact x_lKeepN hn h2 (lit_k tC ls) F (kk h Fr.rf he)
