/-! the three columns: chosen, their bytes counted and put -/
theorem colF_cd (sy wd : Nat → Nat) (vs : List Nat) : (colF sy wd vs).1 = (cdF (vs.map sy)).1 ∧ (colF sy wd vs).2.1 = (cdF (vs.map sy)).2 := by
  have g : ∀ (vs : List Nat) (x : (Nat → Nat) × Nat × Nat) (y : (Nat → Nat) × Nat), x.1 = y.1 → x.2.1 = y.2 → (vs.foldl (colS sy wd) x).1 = ((vs.map sy).foldl cdS y).1 ∧ (vs.foldl (colS sy wd) x).2.1 = ((vs.map sy).foldl cdS y).2 := by
    intro vs
    induction vs with
    | nil => intro x y h1 h2; exact ⟨h1, h2⟩
    | cons v r ih =>
      intro x y h1 h2
      refine ih (colS sy wd x v) (cdS y (sy v)) ?_ ?_
      · unfold colS cdS
        funext s
        show (if s = sy v then x.1 (sy v) + 1 else x.1 s) = updN y.1 (sy v) (y.1 (sy v) + 1) s
        unfold updN
        rw [h1]
      · show x.2.1 + (if x.1 (sy v) = 0 then 1 else 0) = y.2 + (if y.1 (sy v) = 0 then 1 else 0)
        rw [h1, h2]
  exact g vs _ _ rfl rfl
def ColG (h : Nat → aE) (c j k G l M NB NW : Nat) (B sy wd : Nat → Nat) (tK : Tb) (tH : Option Tb) (vs : List Nat) : Prop := (∃ (cho : Nat) (mo bi ob sta : Int32), h c = .inr (1, [.ref (aBig + j), .ref (aBig + k), .int (nI G), .ref (c + 1), .ref (c + 2), .ref (c + 5), .int (nI vs.length), .int (nI (colF sy wd vs).2.1), .int (nI (colF sy wd vs).2.2), .ref (c + 6), .ref (c + 13), .ref (c + 20), .ref cho, .ref (c + 3), .int mo, .int bi, .int ob, .int sta])) ∧ ColA h c l sy wd vs ∧ RowE h (c + 3) 128 ∧ ShT h (c + 6) l M tK.1 tK.2 ∧ HeldT h (c + 13) l M tH ∧ ShX h (c + 20) l M ∧ ColP h j k l NB NW B sy wd
theorem ColG.zfr {h h1 : Nat → aE} {A : Nat → Prop} {c j k G l M NB NW : Nat} {B sy wd : Nat → Nat} {tK : Tb} {tH : Option Tb} {vs : List Nat} (r : ColG h c j k G l M NB NW B sy wd tK tH vs) (f : Fr h h1 A) (q : ∀ x, c ≤ x → x ≤ c + 26 → ¬ A x) (q1 : ¬ A (aBig + j)) (q2 : ¬ A (aBig + k)) : ColG h1 c j k G l M NB NW B sy wd tK tH vs := by
  obtain ⟨⟨cho, mo, bi, ob, sta, a⟩, b, e, g, i, jj, kk⟩ := r
  exact ⟨⟨cho, mo, bi, ob, sta, (f _ (q _ (by omega) (by omega))).trans a⟩, b.zfr f (q _ (by omega) (by omega)) (q _ (by omega) (by omega)) (q _ (by omega) (by omega)), e.zfr f (q _ (by omega) (by omega)) (q _ (by omega) (by omega)), g.zfr f (fun x h1 h2 => q _ (by omega) (by omega)), i.zfr f (fun x h1 h2 => q _ (by omega) (by omega)), jj.zfr f (fun x h1 h2 => q _ (by omega) (by omega)), kk.zfr f q1 q2⟩
theorem ColG.toX {h : Nat → aE} {c j k G l M NB NW : Nat} {B sy wd : Nat → Nat} {tK : Tb} {tH : Option Tb} {vs : List Nat} (r : ColG h c j k G l M NB NW B sy wd tK tH vs) : ColX h c j k G l M NB NW B sy wd tK tH := by
  obtain ⟨⟨cho, mo, bi, ob, sta, a⟩, ⟨sA, vA, cA, b1, b2, b3, -⟩, e, g, i, jj, kk⟩ := r
  exact ⟨cho, _, _, _, mo, bi, ob, sta, sA, vA, cA, a, b1, b2, b3, e, g, i, jj, kk⟩
theorem ColG.rcv {n s : Nat} {h : Nat → aE} {c j k G l M NB NW : Nat} {B sy wd : Nat → Nat} {tK : Tb} {tH : Option Tb} {vs : List Nat} {vl : List Value} (r : ColG h c j k G l M NB NW B sy wd tK tH vs) (hk : c < n) : rcv 2 (.ref c :: vl) (n, s, h) = true := by
  obtain ⟨⟨cho, mo, bi, ob, sta, a⟩, -⟩ := r
  exact rcv_ok hk a
def ColC (h : Nat → aE) (c j k G l M NB NW : Nat) (B sy wd : Nat → Nat) (tK : Tb) (tH : Option Tb) (vs : List Nat) : Prop := ColG h c j k G l M NB NW B sy wd tK tH vs ∧ (1 ≤ vs.length → ∃ z, ColR h c j k G l M NB NW B sy wd vs (chT tK tH G (vs.map sy) (chF tK tH G (vs.map sy)).1) (chF tK tH G (vs.map sy)).1 z ∧ ((chF tK tH G (vs.map sy)).1 = 2 → RowIs h (c + 3) 128 (some (tbY (vs.map sy) G 2)) 0 0))
theorem ColC.zfr {h h1 : Nat → aE} {A : Nat → Prop} {c j k G l M NB NW : Nat} {B sy wd : Nat → Nat} {tK : Tb} {tH : Option Tb} {vs : List Nat} (r : ColC h c j k G l M NB NW B sy wd tK tH vs) (f : Fr h h1 A) (q : ∀ x, c ≤ x → x ≤ c + 26 → ¬ A x) (q1 : ¬ A (aBig + j)) (q2 : ¬ A (aBig + k)) : ColC h1 c j k G l M NB NW B sy wd tK tH vs := by
  refine ⟨r.1.zfr f q q1 q2, fun h0 => ?_⟩
  obtain ⟨z, a, b⟩ := r.2 h0
  exact ⟨z, a.zfr f q q1 q2, fun e => (b e).zfr f (q _ (by omega) (by omega)) (q _ (by omega) (by omega))⟩
noncomputable def coC (tK : Tb) (tH : Option Tb) (G : Nat) (sy wd : Nat → Nat) (vs : List Nat) : Nat := if vs.length = 0 then 0 else (chF tK tH G (vs.map sy)).2 + (colF sy wd vs).2.2
theorem xk_choose {d n s : Nat} {h : Nat → aE} {c j k G l M NB NW : Nat} {B sy wd : Nat → Nat} {tK : Tb} {tH : Option Tb} {vs : List Nat} (hc : c + 26 < n) (hnb : n < aBig) (hl : l < 64) (hG6 : 6 ≤ G) (hG : G ≤ 9) (hM : M = 2 ^ G) (hsy : ∀ v, sy v ≤ l) (hv : vs.length ≤ 2667) (hwd : ∀ s, wd s ≤ 16) (hK : TbOk l M tK) (hH : TbO l M tH) (g : ColG h c j k G l M NB NW B sy wd tK tH vs) {Ψ : Option Value → aH → Prop} (kk : ∀ h', Fr h h' (fun j => j = c ∨ j = c + 3 ∨ j = c + 4 ∨ (c + 20 ≤ j ∧ j ≤ c + 26)) → ColC h' c j k G l M NB NW B sy wd tK tH vs → Ψ (some (.int (nI (coC tK tH G sy wd vs)))) (n, s, h')) : WO (mM (d + 6)) 12 [.ref c] (n, s, h) Ψ := by
  obtain ⟨⟨cho, mo, bi, ob, sta, a⟩, b, e, g1, i, jj, kp⟩ := id g
  by_cases h0 : vs.length = 0
  · have ek : coC tK tH G sy wd vs = 0 := if_pos h0
    rw [ek] at kk
    rw [h0] at a
    exact x_kcho0 hc a (kk h Fr.rf ⟨g, fun z => absurd z (by omega)⟩)
  · have ek : coC tK tH G sy wd vs = (chF tK tH G (vs.map sy)).2 + (colF sy wd vs).2.2 := if_neg h0
    rw [ek] at kk
    obtain ⟨ec, ed⟩ := colF_cd sy wd vs
    obtain ⟨sA, vA, cA, b1, b2, b3, b4, b5⟩ := id b
    obtain ⟨hok, hs⟩ := syv_ok (sy := sy) (vs := vs) hsy hl (by omega) hv
    have had := (colF_le sy wd (W := 16) hwd vs).2.2
    have hlen : (vs.map sy).length = vs.length := List.length_map ..
    obtain ⟨zs, -, hzs⟩ := wb_of32 sta
    have a2 := a
    rw [ed, ← hlen] at a2
    refine x_choose (ss := vs.map sy) (ad0 := (colF sy wd vs).2.2) hc hl hG6 hG hM hok hs (fun i hi => ?_) (fun s hs2 => ?_) rfl (by omega) hK hH a2 b1 b3 jj e g1 i (fun h' ob' fr F T tok X Rt hT2 hm hb => ?_)
    · rw [map_getD (by rw [← hlen]; exact hi)]
      exact (b4 i (by rw [← hlen]; exact hi)).1
    · rw [← ec]
      exact b5 s (by omega)
    · rw [hlen, ← ed] at F
      have hA' : ColA h' c l sy wd vs := b.zfr fr (by omega) (by omega) (by omega)
      have hp' : ColP h' j k l NB NW B sy wd := kp.zfr fr (by omega) (by omega)
      have F2 := F
      rw [hzs] at F2
      refine kk h' fr ⟨⟨⟨_, _, _, _, _, F⟩, hA', Rt, g1.zfr fr (fun x h1 h2 => by omega), i.zfr fr (fun x h1 h2 => by omega), X, hp'⟩, fun _ => ⟨zs, ⟨_, ob', F2, hA', T, hp'⟩, fun e2 => ?_⟩⟩
      rw [tbY_2]
      exact hT2 e2
abbrev CG1 (h : Nat → aE) (tH : Option Tb) (vs : List Nat) : Prop := ColG h 108 3 4 9 35 512 36 36 B1 sy1 wd1 (tKn 0) tH vs
abbrev CG2 (h : Nat → aE) (tH : Option Tb) (vs : List Nat) : Prop := ColG h 135 5 6 8 31 256 17 17 B2 sy2 wd2 (tKn 1) tH vs
abbrev CG3 (h : Nat → aE) (tH : Option Tb) (vs : List Nat) : Prop := ColG h 162 7 8 9 52 512 53 53 B3 sy3 wd3 (tKn 2) tH vs
abbrev CC1 (h : Nat → aE) (tH : Option Tb) (vs : List Nat) : Prop := ColC h 108 3 4 9 35 512 36 36 B1 sy1 wd1 (tKn 0) tH vs
abbrev CC2 (h : Nat → aE) (tH : Option Tb) (vs : List Nat) : Prop := ColC h 135 5 6 8 31 256 17 17 B2 sy2 wd2 (tKn 1) tH vs
abbrev CC3 (h : Nat → aE) (tH : Option Tb) (vs : List Nat) : Prop := ColC h 162 7 8 9 52 512 53 53 B3 sy3 wd3 (tKn 2) tH vs
theorem xs_seqB {d n s : Nat} {h : Nat → aE} {tH1 tH2 tH3 : Option Tb} {lt : Sq} {qs : List Sq} (hn : 190 ≤ n) (hnb : n < aBig) (h2 : qs.length ≤ 2667) (hq : ∀ q, q ∈ qs → SqB q) (hlt : LatOk lt) (hH1 : TbO 35 512 tH1) (hH2 : TbO 31 256 tH2) (hH3 : TbO 52 512 tH3) (hP : PaX h (nI qs.length)) (c1 : CC1 h tH1 (seqV1 qs)) (c2 : CC2 h tH2 (numF lt qs).1) (c3 : CC3 h tH3 (seqV3 qs)) {Ψ : Option Value → aH → Prop} (kk : Ψ (some (.int (nI (seY tH1 tH2 tH3 lt qs).length))) (n, s, h)) : WO (mM (d + 2)) 76 [.ref 81, .int (nI (coC (tKn 0) tH1 9 sy1 wd1 (seqV1 qs) + coC (tKn 1) tH2 8 sy2 wd2 (numF lt qs).1 + coC (tKn 2) tH3 9 sy3 wd3 (seqV3 qs)))] (n, s, h) Ψ := by
  by_cases h0 : qs.length = 0
  · have e : seY tH1 tH2 tH3 lt qs = [0] := if_pos h0
    rw [e] at kk
    unfold PaX at hP
    rw [h0] at hP
    exact x_seqB0 hn hP kk
  · obtain ⟨b1, b2, b3⟩ := se_len (by omega) h2 hq hlt hH1 hH2 hH3
    obtain ⟨k1, k2, k3⟩ := cols_ok (by omega) h2 hq hlt hH1 hH2 hH3
    rw [b3] at kk
    have e1 : coC (tKn 0) tH1 9 sy1 wd1 (seqV1 qs) = _ := if_neg (by rw [v1_len]; exact h0)
    have e2 : coC (tKn 1) tH2 8 sy2 wd2 (numF lt qs).1 = _ := if_neg (by rw [numF_len]; exact h0)
    have e3 : coC (tKn 2) tH3 9 sy3 wd3 (seqV3 qs) = _ := if_neg (by rw [v3_len]; exact h0)
    have ec : coC (tKn 0) tH1 9 sy1 wd1 (seqV1 qs) + coC (tKn 1) tH2 8 sy2 wd2 (numF lt qs).1 + coC (tKn 2) tH3 9 sy3 wd3 (seqV3 qs) = seC tH1 tH2 tH3 lt qs := by
      rw [e1, e2, e3]
      rfl
    rw [ec]
    obtain ⟨z1, r1, t1⟩ := c1.2 (by rw [v1_len]; omega)
    obtain ⟨z2, r2, t2⟩ := c2.2 (by rw [numF_len]; omega)
    obtain ⟨z3, r3, t3⟩ := c3.2 (by rw [v3_len]; omega)
    obtain ⟨a1, f1⟩ := syv_ok (sy := sy1) (vs := seqV1 qs) sy1_lt (by decide) (by rw [v1_len]; omega) (by rw [v1_len]; exact h2)
    obtain ⟨a2, f2⟩ := syv_ok (sy := sy2) (vs := (numF lt qs).1) sy2_lt (by decide) (by rw [numF_len]; omega) (by rw [numF_len]; exact h2)
    obtain ⟨a3, f3⟩ := syv_ok (sy := sy3) (vs := seqV3 qs) sy3_lt (by decide) (by rw [v3_len]; omega) (by rw [v3_len]; exact h2)
    have m1 := (ch_all (M := 512) (G := 9) a1 (by decide) (by decide) (by decide) rfl f1 (kn_ok (tb := 0) (by decide)) hH1).1
    have m2 := (ch_all (M := 256) (G := 8) a2 (by decide) (by decide) (by decide) rfl f2 (kn_ok (tb := 1) (by decide)) hH2).1
    have m3 := (ch_all (M := 512) (G := 9) a3 (by decide) (by decide) (by decide) rfl f3 (kn_ok (tb := 2) (by decide)) hH3).1
    exact x_seqB hn hnb k1 k2 k3 h2 (by omega) m1 m2 m3 t1 t2 t3 (by omega) b1 hP r1 r2 r3 kk
theorem ColR.toC {h : Nat → aE} {h' : Nat → aE} {A : Nat → Prop} {c j k G l M NB NW : Nat} {B sy wd : Nat → Nat} {tK : Tb} {tH : Option Tb} {vs : List Nat} {z : Nat} (g : ColC h c j k G l M NB NW B sy wd tK tH vs) (h0 : 1 ≤ vs.length) (r : ColR h' c j k G l M NB NW B sy wd vs (chT tK tH G (vs.map sy) (chF tK tH G (vs.map sy)).1) (chF tK tH G (vs.map sy)).1 z) (f : Fr h h' A) (q : ∀ x, c < x → x ≤ c + 26 → ¬ A x) : ColC h' c j k G l M NB NW B sy wd tK tH vs := by
  obtain ⟨bi, ob, F, a, b, p⟩ := id r
  obtain ⟨⟨-, -, e, g1, i, jj, -⟩, t⟩ := g
  obtain ⟨z0, -, t2⟩ := t h0
  exact ⟨⟨⟨_, _, _, _, _, F⟩, a, e.zfr f (q _ (by omega) (by omega)) (q _ (by omega) (by omega)), g1.zfr f (fun x h1 h2 => q _ (by omega) (by omega)), i.zfr f (fun x h1 h2 => q _ (by omega) (by omega)), jj.zfr f (fun x h1 h2 => q _ (by omega) (by omega)), p⟩, fun _ => ⟨z, r, fun e2 => (t2 e2).zfr f (q _ (by omega) (by omega)) (q _ (by omega) (by omega))⟩⟩
theorem xs_put {d n s : Nat} {h : Nat → aE} {tH1 tH2 tH3 : Option Tb} {lt : Sq} {qs : List Sq} {r RN : Nat} {bb : Option (List Nat)} (hn : 190 ≤ n) (hnb : n < aBig) (hr : r + 1 < 67) (hRN : RN < 2 ^ 31) (h2 : qs.length ≤ 2667) (hq : ∀ q, q ∈ qs → SqB q) (hlt : LatOk lt) (hH1 : TbO 35 512 tH1) (hH2 : TbO 31 256 tH2) (hH3 : TbO 52 512 tH3) (hP : PaX h (nI qs.length)) (c1 : CC1 h tH1 (seqV1 qs)) (c2 : CC2 h tH2 (numF lt qs).1) (c3 : CC3 h tH3 (seqV3 qs)) (P : RowIs h r RN bb 0 0) {Ψ : Option Value → aH → Prop} (kk : ∀ h', Fr h h' (fun j => j = 108 ∨ j = 135 ∨ j = 162 ∨ j = r ∨ j = r + 1) → RowIs h' r RN (bputs RN bb (seY tH1 tH2 tH3 lt qs)) 0 0 → CC1 h' tH1 (seqV1 qs) → CC2 h' tH2 (numF lt qs).1 → CC3 h' tH3 (seqV3 qs) → Ψ none (n, s, h')) : WO (mM (d + 4)) 79 [.ref 81, .ref r] (n, s, h) Ψ := by
  have hB : aBig = 1000000 := rfl
  by_cases h0 : qs.length = 0
  · have e : seY tH1 tH2 tH3 lt qs = [0] := if_pos h0
    rw [e] at kk
    unfold PaX at hP
    rw [h0] at hP
    refine x_putSeq0 hn (by omega) hRN hP P (fun h' fr R => kk h' (fr.mono (fun j hj => Or.inr (Or.inr (Or.inr hj)))) R (c1.zfr fr (fun x a b => by omega) (by omega) (by omega)) (c2.zfr fr (fun x a b => by omega) (by omega) (by omega)) (c3.zfr fr (fun x a b => by omega) (by omega) (by omega)))
  · obtain ⟨k1, k2, k3⟩ := cols_ok (by omega) h2 hq hlt hH1 hH2 hH3
    have e : seY tH1 tH2 tH3 lt qs = _ := if_neg h0
    rw [e] at kk
    obtain ⟨z1, r1, t1⟩ := c1.2 (by rw [v1_len]; omega)
    obtain ⟨z2, r2, t2⟩ := c2.2 (by rw [numF_len]; omega)
    obtain ⟨z3, r3, t3⟩ := c3.2 (by rw [v3_len]; omega)
    obtain ⟨a1, f1⟩ := syv_ok (sy := sy1) (vs := seqV1 qs) sy1_lt (by decide) (by rw [v1_len]; omega) (by rw [v1_len]; exact h2)
    obtain ⟨a2, f2⟩ := syv_ok (sy := sy2) (vs := (numF lt qs).1) sy2_lt (by decide) (by rw [numF_len]; omega) (by rw [numF_len]; exact h2)
    obtain ⟨a3, f3⟩ := syv_ok (sy := sy3) (vs := seqV3 qs) sy3_lt (by decide) (by rw [v3_len]; omega) (by rw [v3_len]; exact h2)
    have m1 := (ch_all (M := 512) (G := 9) a1 (by decide) (by decide) (by decide) rfl f1 (kn_ok (tb := 0) (by decide)) hH1).1
    have m2 := (ch_all (M := 256) (G := 8) a2 (by decide) (by decide) (by decide) rfl f2 (kn_ok (tb := 1) (by decide)) hH2).1
    have m3 := (ch_all (M := 512) (G := 9) a3 (by decide) (by decide) (by decide) rfl f3 (kn_ok (tb := 2) (by decide)) hH3).1
    exact x_putSeq hn hnb (by omega) hRN k1 k2 k3 h2 (by omega) m1 m2 m3 t1 t2 t3 hP r1 r2 r3 P (fun h' fr R y1 y2 y3 => by
      obtain ⟨w1, y1⟩ := y1
      obtain ⟨w2, y2⟩ := y2
      obtain ⟨w3, y3⟩ := y3
      exact kk h' fr R (ColR.toC c1 (by rw [v1_len]; omega) y1 fr (fun x a b => by omega)) (ColR.toC c2 (by rw [numF_len]; omega) y2 fr (fun x a b => by omega)) (ColR.toC c3 (by rw [v3_len]; omega) y3 fr (fun x a b => by omega)))
theorem HeldT.toX {h : Nat → aE} {k l M : Nat} {t : Option Tb} (r : HeldT h k l M t) : ShX h k l M := by
  cases t with
  | none => exact ShN.toX r
  | some t => exact (ShT.toP r).toX
theorem ColG.heldX {h : Nat → aE} {c j k G l M NB NW : Nat} {B sy wd : Nat → Nat} {tK : Tb} {tH : Option Tb} {vs : List Nat} (r : ColG h c j k G l M NB NW B sy wd tK tH vs) : ShX h (c + 13) l M := r.2.2.2.2.1.toX
theorem ColG.toH {h h1 : Nat → aE} {A : Nat → Prop} {c j k G l M NB NW : Nat} {B sy wd : Nat → Nat} {tK : Tb} {tH tH2 : Option Tb} {vs : List Nat} (r : ColG h c j k G l M NB NW B sy wd tK tH vs) (f : Fr h h1 A) (q : ∀ x, c ≤ x → x ≤ c + 26 → (x < c + 13 ∨ c + 19 < x) → ¬ A x) (q1 : ¬ A (aBig + j)) (q2 : ¬ A (aBig + k)) (H : HeldT h1 (c + 13) l M tH2) : ColX h1 c j k G l M NB NW B sy wd tK tH2 := by
  obtain ⟨⟨cho, mo, bi, ob, sta, a⟩, ⟨sA, vA, cA, b1, b2, b3, -⟩, e, g, i, jj, kk⟩ := r
  exact ⟨cho, _, _, _, mo, bi, ob, sta, sA, vA, cA, (f _ (q _ (by omega) (by omega) (by omega))).trans a, (f _ (q _ (by omega) (by omega) (by omega))).trans b1, (f _ (q _ (by omega) (by omega) (by omega))).trans b2, (f _ (q _ (by omega) (by omega) (by omega))).trans b3, e.zfr f (q _ (by omega) (by omega) (by omega)) (q _ (by omega) (by omega) (by omega)), g.zfr f (fun x h1 h2 => q _ (by omega) (by omega) (by omega)), H, jj.zfr f (fun x h1 h2 => q _ (by omega) (by omega) (by omega)), kk.zfr f q1 q2⟩
/-- what the block leaves -/
theorem xs_keep {d n s : Nat} {h : Nat → aE} {S : PkS} {ls : List Nat} {qs : List Sq} {rn : Nat} (hn : 190 ≤ n) (h2 : qs.length ≤ 2667) (hq : ∀ q, q ∈ qs → SqB q) (hOk : PkOk S) (hls : LsOk ls) (hS : LiS h ls (litF S.1 ls)) (he : CoH h 92 S.1) (hR : LiR h ls rn) (hP : PaX h (nI qs.length)) (h86 : LatA h 86 S.2.2.2.2.1) (h87 : LatA h 87 (numF S.2.2.2.2.1 qs).2) (hT : TlA h S.2.2.2.2.2) (c1 : CC1 h S.2.1 (seqV1 qs)) (c2 : CC2 h S.2.2.1 (numF S.2.2.2.2.1 qs).1) (c3 : CC3 h S.2.2.2.1 (seqV3 qs)) {Ψ : Option Value → aH → Prop} (kk : ∀ h', Fr h h' (fun x => x = 86 ∨ x = 88 ∨ (92 ≤ x ∧ x ≤ 95) ∨ (121 ≤ x ∧ x ≤ 127) ∨ (148 ≤ x ∧ x ≤ 154) ∨ (175 ≤ x ∧ x ≤ 181)) → LatA h' 86 (blkK ls qs S).2.2.2.2.1 → CoH h' 92 (blkK ls qs S).1 → TlA h' (blkK ls qs S).2.2.2.2.2 → CX1 h' (blkK ls qs S).2.1 → CX2 h' (blkK ls qs S).2.2.1 → CX3 h' (blkK ls qs S).2.2.2.1 → Ψ none (n, s, h')) : WO (mM (d + 4)) 81 [.ref 81] (n, s, h) Ψ := by
  have hB : aBig = 1000000 := rfl
  obtain ⟨o1, ⟨o2, o3, o4⟩, o5, -⟩ := id hOk
  obtain ⟨a86, F86, -⟩ := h86
  obtain ⟨g, F88, hg⟩ := hT
  unfold PaX at hP
  unfold blkK at kk
  by_cases h0 : qs.length = 0
  · simp only [if_pos h0] at kk
    rw [h0] at hP
    refine x_pkeep0 hn hls hS he hR hg h87 hP F86 F88 (fun h' fr L6 co tl => ?_)
    refine kk h' (fr.mono (fun j hj => by omega)) L6 co (tl.cg (fun q => ?_)) (c1.1.toX.zfr fr (fun x h1 h2 => by omega) (by omega) (by omega)) (c2.1.toX.zfr fr (fun x h1 h2 => by omega) (by omega) (by omega)) (c3.1.toX.zfr fr (fun x h1 h2 => by omega) (by omega) (by omega))
    unfold blkN ntAt
    rw [if_pos h0, h0]
    rfl
  · simp only [if_neg h0] at kk
    obtain ⟨k1, k2, k3⟩ := cols_ok (by omega) h2 hq o5 o2 o3 o4
    obtain ⟨z1, r1, t1⟩ := c1.2 (by rw [v1_len]; omega)
    obtain ⟨z2, r2, t2⟩ := c2.2 (by rw [numF_len]; omega)
    obtain ⟨z3, r3, t3⟩ := c3.2 (by rw [v3_len]; omega)
    obtain ⟨a1, f1⟩ := syv_ok (sy := sy1) (vs := seqV1 qs) sy1_lt (by decide) (by rw [v1_len]; omega) (by rw [v1_len]; exact h2)
    obtain ⟨a2, f2⟩ := syv_ok (sy := sy2) (vs := (numF S.2.2.2.2.1 qs).1) sy2_lt (by decide) (by rw [numF_len]; omega) (by rw [numF_len]; exact h2)
    obtain ⟨a3, f3⟩ := syv_ok (sy := sy3) (vs := seqV3 qs) sy3_lt (by decide) (by rw [v3_len]; omega) (by rw [v3_len]; exact h2)
    have m1 := (ch_all (M := 512) (G := 9) a1 (by decide) (by decide) (by decide) rfl f1 (kn_ok (tb := 0) (by decide)) o2).1
    have m2 := (ch_all (M := 256) (G := 8) a2 (by decide) (by decide) (by decide) rfl f2 (kn_ok (tb := 1) (by decide)) o3).1
    have m3 := (ch_all (M := 512) (G := 9) a3 (by decide) (by decide) (by decide) rfl f3 (kn_ok (tb := 2) (by decide)) o4).1
    refine x_pkeep1 hn hls hS he hR hg h87 (by omega) h2 m1 k1.2.2.1 r1 c1.1.heldX m2 k2.2.2.1 r2 c2.1.heldX m3 k3.2.2.1 r3 c3.1.heldX hP F86 F88 (fun h' fr L6 co tl x1 x2 x3 => ?_)
    refine kk h' fr L6 co (tl.cg (fun q => ?_)) (c1.1.toH fr (fun x h1 h2 h3 => by omega) (by omega) (by omega) x1) (c2.1.toH fr (fun x h1 h2 h3 => by omega) (by omega) (by omega) x2) (c3.1.toH fr (fun x h1 h2 h3 => by omega) (by omega) (by omega) x3)
    unfold blkN ntAt mdY
    simp only [if_neg h0]
    omega
