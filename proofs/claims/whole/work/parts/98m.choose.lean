/-! a column: the best mode -/
abbrev Tb : Type := Nat × (Nat → Nat)
noncomputable def tabC (t : Tb) (ss : List Nat) : Option Nat := if ∀ s, s ∈ ss → massU (t.2 s) ≠ 0 then some (rcF t.2 64 t.1 ss) else none
def chA (cK : Option Nat) : Nat × Nat := match cK with
  | some c => (0, c)
  | none => (9, 2 ^ 30)
def chB (dif : Nat) (b : Nat × Nat) : Nat × Nat := if dif = 1 ∧ 8 < b.2 then (1, 8) else b
def chC (bo b : Nat × Nat) : Nat × Nat := if bo.2 < b.2 then (2, bo.2) else b
def chD (cH : Option Nat) (b : Nat × Nat) : Nat × Nat := match cH with
  | some c => if c < b.2 then (3, c) else b
  | none => b
noncomputable def chF (tK : Tb) (tH : Option Tb) (G : Nat) (ss : List Nat) : Nat × Nat := chD (tH.bind (fun t => tabC t ss)) (chC (boF ss (G - 4)) (chB (cdF ss).2 (chA (tabC tK ss))))
noncomputable def chT (tK : Tb) (tH : Option Tb) (G : Nat) (ss : List Nat) (md : Nat) : Tb := if md = 0 then tK else if md = 1 then (0, aloU (ss.getD 0 0)) else if md = 2 then ((boF ss (G - 4)).1, wU (cdF ss).1 (boF ss (G - 4)).1 64) else tH.getD (0, fun _ => 1)
def TbOk (l M : Nat) (t : Tb) : Prop := (t.1 = 0 ∨ 5 ≤ t.1) ∧ t.1 ≤ 9 ∧ 2 ^ t.1 ≤ M ∧ (∀ s, l < s → t.2 s = 1) ∧ mSum t.2 (l + 1) = 2 ^ t.1
def HeldT (h : Nat → aE) (k l M : Nat) : Option Tb → Prop
  | none => ShN h k l M
  | some t => ShT h k l M t.1 t.2
def TbO (l M : Nat) : Option Tb → Prop
  | none => True
  | some t => TbOk l M t
theorem HeldT.zfr {h h1 : Nat → aE} {A : Nat → Prop} {k l M : Nat} {t : Option Tb} (r : HeldT h k l M t) (f : Fr h h1 A) (q : ∀ j, k ≤ j → j ≤ k + 6 → ¬ A j) : HeldT h1 k l M t := by
  cases t with
  | none => exact ShN.zfr r f q
  | some t => exact ShT.zfr r f q
def CHO (c md : Nat) : Nat := if md = 0 then c + 6 else if md = 3 then c + 13 else c + 20
theorem shC_lt {ss : List Nat} {o : Nat} (hok : SyOk ss) (ho5 : 5 ≤ o) (ho : o ≤ 9) (hd : (cdF ss).2 ≤ 2 ^ o) : shC ss o < 2 ^ 20 := by
  obtain ⟨hS, -⟩ := wU_sh hok hd
  obtain ⟨c, p, q1, -, -⟩ := row_ex (Or.inr ho5) ho hS ss (sy_ne hok) (wU_m hok hd)
  have h1 := rcF_is (Or.inr ho5) ho hS q1
  have h2 : c ≤ 9 * 2667 := Nat.le_trans (rc_le q1) (Nat.mul_le_mul ho hok.2.2)
  have h3 : (shB (wU (cdF ss).1 o 64) o (0, 0)).1 ≤ 0 + 836 := (shB_le ho5 ho hS (0, 0)).2
  unfold shC
  rw [h1]
  omega
theorem bo_ok {ss : List Nat} (hok : SyOk ss) : ∀ k, k ≤ 5 → ((boF ss k).1 = 0 ∨ (5 ≤ (boF ss k).1 ∧ (boF ss k).1 < 5 + k ∧ (cdF ss).2 ≤ 2 ^ (boF ss k).1 ∧ (boF ss k).2 = shC ss (boF ss k).1)) ∧ (2 ≤ k → (boF ss k).1 ≠ 0) := by
  have hd64 := cd_le hok.1
  intro k
  induction k with
  | zero => intro _; exact ⟨Or.inl rfl, fun q => absurd q (by decide)⟩
  | succ k ih =>
    intro hk
    obtain ⟨i1, i2⟩ := ih (by omega)
    have hp6 : 1 ≤ k → 64 ≤ 2 ^ (5 + k) := fun q => Nat.le_trans (show 64 ≤ 2 ^ 6 by decide) (Nat.pow_le_pow_right (by decide) (by omega))
    rw [bo_s]
    by_cases c : 2 ^ (5 + k) < (cdF ss).2
    · rw [if_pos c]
      refine ⟨?_, fun q => by have := hp6 (by omega); omega⟩
      rcases i1 with z | z
      · exact Or.inl z
      · exact Or.inr ⟨z.1, by omega, z.2.2⟩
    · rw [if_neg c]
      by_cases e : (boF ss k).1 = 0 ∨ shC ss (5 + k) < (boF ss k).2
      · rw [if_pos e]
        exact ⟨Or.inr ⟨by show 5 ≤ 5 + k; omega, by show 5 + k < _; omega, by show _ ≤ 2 ^ (5 + k); omega, rfl⟩, fun _ => by show 5 + k ≠ 0; omega⟩
      · rw [if_neg e]
        refine ⟨?_, fun q => by omega⟩
        rcases i1 with z | z
        · exact Or.inl z
        · exact Or.inr ⟨z.1, by omega, z.2.2⟩
theorem bo_fin {ss : List Nat} {G : Nat} (hok : SyOk ss) (h6 : 6 ≤ G) (h9 : G ≤ 9) : 5 ≤ (boF ss (G - 4)).1 ∧ (boF ss (G - 4)).1 ≤ G ∧ (cdF ss).2 ≤ 2 ^ (boF ss (G - 4)).1 ∧ (boF ss (G - 4)).2 = shC ss (boF ss (G - 4)).1 ∧ (boF ss (G - 4)).2 < 2 ^ 20 := by
  obtain ⟨i1, i2⟩ := bo_ok hok (G - 4) (by omega)
  have i3 := i2 (by omega)
  rcases i1 with z | z
  · exact absurd z i3
  · exact ⟨z.1, by omega, z.2.2.1, z.2.2.2, by rw [z.2.2.2]; exact shC_lt hok z.1 (by omega) z.2.2.1⟩
theorem tb_pad {l M : Nat} {t : Tb} (h : TbOk l M t) (hl : l < 64) : mSum t.2 64 = 2 ^ t.1 ∧ ∀ p, ownF t.2 64 t.1 p = ownF t.2 (l + 1) t.1 p := by
  obtain ⟨h1, h2, h3, h4, h5⟩ := h
  have p := own_pad h1 h2 h5 (64 - (l + 1)) (fun s q1 _ => h4 s (by omega))
  rw [show l + 1 + (64 - (l + 1)) = 64 by omega] at p
  exact p
theorem all_iff {ss : List Nat} {l : Nat} {u : Nat → Nat} (hs : ∀ s, s ∈ ss → s ≤ l) : (∀ i, i ≤ l → (cdF ss).1 i ≠ 0 → massU (u i) ≠ 0) ↔ ∀ s, s ∈ ss → massU (u s) ≠ 0 := ⟨fun h s q => h s (hs s q) (cd_pos.mpr q), fun h i _ q => h i (cd_pos.mp q)⟩
theorem tabC_some {l M : Nat} {t : Tb} {ss : List Nat} (h : TbOk l M t) (hl : l < 64) (ha : ∀ s, s ∈ ss → massU (t.2 s) ≠ 0) {c p : Nat} (hR : RowC t.2 (l + 1) t.1 ss c p) : tabC t ss = some c := by
  unfold tabC
  rw [if_pos ha, rcF_pad (tb_pad h hl).2, rcF_is h.1 h.2.1 h.2.2.2.2 hR]
theorem tabC_none {t : Tb} {ss : List Nat} (h : ∃ s, s ∈ ss ∧ massU (t.2 s) = 0) : tabC t ss = none := by
  obtain ⟨s, q, e⟩ := h
  exact if_neg (fun z => z s q e)
theorem chA_le {o : Option Nat} (h : ∀ c, o = some c → c < 2 ^ 30) : (chA o).2 ≤ 2 ^ 30 ∧ ((chA o).1 = 9 → (chA o).2 = 2 ^ 30) := by
  cases o with
  | none => exact ⟨Nat.le_refl _, fun _ => rfl⟩
  | some c => exact ⟨Nat.le_of_lt (h c rfl), fun z => absurd z (by show ¬ 0 = 9; decide)⟩
theorem tabC_lt {l M : Nat} {t : Tb} {ss : List Nat} (hok : SyOk ss) (hs : ∀ s, s ∈ ss → s ≤ l) (h : TbOk l M t) (hl : l < 64) {c : Nat} (e : tabC t ss = some c) : c ≤ 9 * 2667 := by
  unfold tabC at e
  by_cases ha : ∀ s, s ∈ ss → massU (t.2 s) ≠ 0
  · rw [if_pos ha] at e
    obtain ⟨c2, p2, q1, -, -⟩ := row_ex (u := t.2) (N := l + 1) h.1 h.2.1 h.2.2.2.2 ss (sy_ne hok) (fun s q => ⟨Nat.lt_succ_of_le (hs s q), ha s q⟩)
    rw [rcF_pad (tb_pad h hl).2, rcF_is h.1 h.2.1 h.2.2.2.2 q1] at e
    have := Nat.le_trans (rc_le q1) (Nat.mul_le_mul h.2.1 hok.2.2)
    injection e with e
    omega
  · rw [if_neg ha] at e
    exact absurd e (by simp)
theorem wU_tb {ss : List Nat} {l M G o : Nat} (hok : SyOk ss) (hl : l < 64) (hs : ∀ s, s ∈ ss → s ≤ l) (ho5 : 5 ≤ o) (ho : o ≤ G) (hG : G ≤ 9) (hM : M = 2 ^ G) (hd : (cdF ss).2 ≤ 2 ^ o) : TbOk l M (o, wU (cdF ss).1 o 64) := ⟨Or.inr ho5, by show o ≤ 9; omega, by rw [hM]; exact Nat.pow_le_pow_right (by decide) ho, fun s q => ((wU_sh hok hd).2 s).mpr (by
    apply Classical.byContradiction
    intro z
    have := hs s (cd_pos.mp z)
    omega), (own_l hok hl hs (Or.inr ho5) (by omega) hd).1⟩
theorem alo_tb {l M x : Nat} (hx : x ≤ l) (hM : 1 ≤ M) : TbOk l M (0, aloU x) := ⟨Or.inl rfl, by show 0 ≤ 9; decide, hM, fun s q => if_neg (by omega), by show mSum (aloU x) (l + 1) = 2 ^ 0; rw [alo_sum, if_pos (by omega)]⟩
theorem chF_fin {l M G : Nat} {ss : List Nat} {tK : Tb} {tH : Option Tb} {bA bB bC cf : Nat × Nat} (hok : SyOk ss) (hl : l < 64) (hG6 : 6 ≤ G) (hG : G ≤ 9) (hM : M = 2 ^ G) (hs : ∀ s, s ∈ ss → s ≤ l) (hK : TbOk l M tK) (hH : TbO l M tH) (ecA : chA (tabC tK ss) = bA) (ecB : chB (cdF ss).2 bA = bB) (ecC : chC (boF ss (G - 4)) bB = bC) (hcf : chD (tH.bind (fun t => tabC t ss)) bC = cf) : cf.1 ≤ 3 ∧ cf.2 < 2 ^ 20 ∧ (cf.1 = 2 → (boF ss (G - 4)).2 < bB.2) ∧ TbOk l M (chT tK tH G ss cf.1) ∧ (cf.1 = 0 → cf.1 = 0) ∧ (cf.1 = 3 → ∃ t, tH = some t) := by
  obtain ⟨bo1, bo2, bo3, bo4, bo5⟩ := bo_fin hok hG6 hG
  have hM1 : 1 ≤ M := by rw [hM]; exact Nat.pow_pos (by decide)
  have hA : (bA.1 = 0 ∧ bA.2 < 2 ^ 20) ∨ (bA.1 = 9 ∧ bA.2 = 2 ^ 30) := by
    rw [← ecA]
    cases e : tabC tK ss with
    | none => exact Or.inr ⟨rfl, rfl⟩
    | some c => exact Or.inl ⟨rfl, by have := tabC_lt hok hs hK hl e; show c < _; omega⟩
  have hB : (bB.1 ≤ 1 ∧ bB.2 < 2 ^ 20) ∨ (bB.1 = 9 ∧ bB.2 = 2 ^ 30) := by
    rw [← ecB]
    unfold chB
    split
    · exact Or.inl ⟨by decide, by decide⟩
    · rcases hA with z | z
      · exact Or.inl ⟨by omega, z.2⟩
      · exact Or.inr z
  have hC : bC.1 ≤ 2 ∧ bC.2 < 2 ^ 20 ∧ (bC.1 = 2 → (boF ss (G - 4)).2 < bB.2) := by
    rw [← ecC]
    unfold chC
    by_cases z : (boF ss (G - 4)).2 < bB.2
    · rw [if_pos z]
      exact ⟨Nat.le_refl _, bo5, fun _ => z⟩
    · rw [if_neg z]
      rcases hB with y | y
      · exact ⟨by omega, y.2, fun q => by omega⟩
      · omega
  have hx0 := hs _ (getD_mem (show 0 < ss.length from hok.2.1))
  have hT : ∀ md, md ≤ 2 → TbOk l M (chT tK tH G ss md) := by
    intro md hmd
    unfold chT
    by_cases z0 : md = 0
    · rw [if_pos z0]; exact hK
    · rw [if_neg z0]
      by_cases z1 : md = 1
      · rw [if_pos z1]; exact alo_tb hx0 hM1
      · rw [if_neg z1, if_pos (by omega)]; exact wU_tb hok hl hs bo1 bo2 hG hM bo3
  have base : bC = cf → cf.1 ≤ 3 ∧ cf.2 < 2 ^ 20 ∧ (cf.1 = 2 → (boF ss (G - 4)).2 < bB.2) ∧ TbOk l M (chT tK tH G ss cf.1) ∧ (cf.1 = 0 → cf.1 = 0) ∧ (cf.1 = 3 → ∃ t, tH = some t) := by
    intro e
    rw [← e]
    exact ⟨by omega, hC.2.1, hC.2.2, hT _ hC.1, fun q => q, fun q => by omega⟩
  cases e : tH.bind (fun t => tabC t ss) with
  | none => rw [e] at hcf; exact base hcf
  | some c =>
    rw [e] at hcf
    have hcf2 : (if c < bC.2 then (3, c) else bC) = cf := hcf
    by_cases z : c < bC.2
    · rw [if_pos z] at hcf2
      rw [← hcf2]
      cases tH with
      | none => exact absurd e (by simp)
      | some t => exact ⟨Nat.le_refl _, by show c < _; omega, fun q => absurd q (by show ¬ 3 = 2; decide), hH, fun q => q, fun _ => ⟨t, rfl⟩⟩
    · rw [if_neg z] at hcf2
      exact base hcf2
set_option maxRecDepth 20000 in
theorem x_choose {d n s : Nat} {h : Nat → aE} {c ba wi cho l M G : Nat} {mo bi ob sta ad : Int32} {ss : List Nat} {yA cA : Nat → Int32} {tK : Tb} {tH : Option Tb} {ad0 : Nat}  (hc : c + 26 < n) (hl : l < 64) (hG6 : 6 ≤ G) (hG : G ≤ 9) (hM : M = 2 ^ G) (hok : SyOk ss) (hs : ∀ s, s ∈ ss → s ≤ l) (hy : ∀ i, i < ss.length → yA i = nI (ss.getD i 0)) (hcA : CntIs cA (cdF ss).1 (l + 1)) (hba : ad = nI ad0) (had : ad0 < 2 ^ 30) (hK : TbOk l M tK) (hH : TbO l M tH) (F_h_c : h c = .inr (1, [.ref ba, .ref wi, .int (nI G), .ref (c + 1), .ref (c + 2), .ref (c + 5), .int (nI ss.length), .int (nI (cdF ss).2), .int ad, .ref (c + 6), .ref (c + 13), .ref (c + 20), .ref cho, .ref (c + 3), .int mo, .int bi, .int ob, .int sta])) (F_h__c_1_ : h (c + 1) = .inl (1, 2667, .inl yA)) (F_h__c_5_ : h (c + 5) = .inl (1, (l + 1), .inl cA)) (P_h_fresh : ShX h (c + 20) l M) (P_h_told : RowE h (c + 3) 128) (P_h_known : ShT h (c + 6) l M tK.1 tK.2) (P_h_held : HeldT h (c + 13) l M tH) {Ψ : Option Value → aH → Prop} (kk : ∀ h' ob', Fr h h' (fun j => j = c ∨ j = c + 3 ∨ j = c + 4 ∨ (c + 20 ≤ j ∧ j ≤ c + 26)) → h' c = .inr (1, [.ref ba, .ref wi, .int (nI G), .ref (c + 1), .ref (c + 2), .ref (c + 5), .int (nI ss.length), .int (nI (cdF ss).2), .int ad, .ref (c + 6), .ref (c + 13), .ref (c + 20), .ref (CHO c (chF tK tH G ss).1), .ref (c + 3), .int (nI (chF tK tH G ss).1), .int (nI (chF tK tH G ss).2), .int ob', .int sta]) → ShT h' (CHO c (chF tK tH G ss).1) l M (chT tK tH G ss (chF tK tH G ss).1).1 (chT tK tH G ss (chF tK tH G ss).1).2 → TbOk l M (chT tK tH G ss (chF tK tH G ss).1) → ShX h' (c + 20) l M → RowE h' (c + 3) 128 → ((chF tK tH G ss).1 = 2 → RowIs h' (c + 3) 128 (some (leBy (shB (wU (cdF ss).1 (boF ss (G - 4)).1 64) (boF ss (G - 4)).1 (0, 0)).2 (((shB (wU (cdF ss).1 (boF ss (G - 4)).1 64) (boF ss (G - 4)).1 (0, 0)).1 + 7) / 8))) 0 0) → (chF tK tH G ss).1 ≤ 3 → (chF tK tH G ss).2 < 2 ^ 20 → Ψ (some (.int (nI ((chF tK tH G ss).2 + ad0)))) (n, s, h')) : WO (mM (d + 6)) 12 [.ref c] (n, s, h) Ψ := by
  refine WO.of (Nat.le_of_ble_eq_true rfl) ?_
  have FR_h : Fr h h (fun j => j = c ∨ j = c + 3 ∨ j = c + 4 ∨ (c + 20 ≤ j ∧ j ≤ c + 26)) := Fr.rf
  obtain ⟨hok1, hok2, hok3⟩ := id hok
  have h2G : 2 ^ G ≤ 2 ^ 9 := Nat.pow_le_pow_right (by decide) hG
  obtain ⟨bo1, bo2, bo3, bo4, bo5⟩ := bo_fin hok hG6 hG
  have hC : ∀ i, i ≤ l → cA i = nI ((cdF ss).1 i) ∧ (cdF ss).1 i < 2 ^ 31 := fun i hi => ⟨hcA i (by omega), by rw [cd_cnt]; exact Nat.lt_of_le_of_lt List.count_le_length (by omega)⟩
  have hex : ∀ {u : Nat → Nat}, (∃ i, i ≤ l ∧ (cdF ss).1 i ≠ 0 ∧ massU (u i) = 0) → ∃ s, s ∈ ss ∧ massU (u s) = 0 := fun h => by obtain ⟨i, -, q, e⟩ := h; exact ⟨i, cd_pos.mp q, e⟩
  have hrb : ∀ {o : Nat} {u : Nat → Nat} {c p : Nat}, o ≤ 9 → RowC u (l + 1) o ss c p → c ≤ 9 * 2667 := fun ho hR => Nat.le_trans (rc_le hR) (Nat.mul_le_mul ho hok3)
  have hMb : M < 2 ^ 20 := by omega
  have hd64 := cd_le hok.1
  have Q_known := P_h_known
  have Q_held := P_h_held
  generalize hcf : chF tK tH G ss = cf at kk
  unfold chF at hcf
  generalize ecA : chA (tabC tK ss) = bA at hcf
  generalize ecB : chB (cdF ss).2 bA = bB at hcf
  generalize ecC : chC (boF ss (G - 4)) bB = bC at hcf
  show WX (lk tX1_choose) (mM (d + 5)) Ψ 0 [(0, .ref c)] [] (n, s, h)
  refine WX.s1 rfl rfl ?_
  refine WX.get1 (fs := [.ref ba, .ref wi, .int (nI G), .ref (c + 1), .ref (c + 2), .ref (c + 5), .int (nI ss.length), .int (nI (cdF ss).2), .int ad, .ref (c + 6), .ref (c + 13), .ref (c + 20), .ref cho, .ref (c + 3), .int mo, .int bi, .int ob, .int sta]) rfl (by omega) (F_h_c) rfl ?_
  refine WX.if_ rfl (fun c_4 => ?_) (fun c_4 => absurd (nI_ne0 hok2 (by omega)) c_4)
  refine WX.s1 rfl rfl ?_
  refine WX.s1 rfl rfl ?_
  refine WX.put1 (fs := [.ref ba, .ref wi, .int (nI G), .ref (c + 1), .ref (c + 2), .ref (c + 5), .int (nI ss.length), .int (nI (cdF ss).2), .int ad, .ref (c + 6), .ref (c + 13), .ref (c + 20), .ref cho, .ref (c + 3), .int mo, .int bi, .int ob, .int sta]) (fs' := [.ref ba, .ref wi, .int (nI G), .ref (c + 1), .ref (c + 2), .ref (c + 5), .int (nI ss.length), .int (nI (cdF ss).2), .int ad, .ref (c + 6), .ref (c + 13), .ref (c + 20), .ref cho, .ref (c + 3), .int mo, .int 1073741824, .int ob, .int sta]) rfl (by omega) (F_h_c) (Nat.le_of_ble_eq_true rfl) (rfl) rfl (fun h12 e_h12 => ?_)
  have F_h12_c : h12 c = .inr (1, [.ref ba, .ref wi, .int (nI G), .ref (c + 1), .ref (c + 2), .ref (c + 5), .int (nI ss.length), .int (nI (cdF ss).2), .int ad, .ref (c + 6), .ref (c + 13), .ref (c + 20), .ref cho, .ref (c + 3), .int mo, .int 1073741824, .int ob, .int sta]) := by rw [e_h12]; exact va_up_eq
  have F_h12__c_1_ : h12 (c + 1) = .inl (1, 2667, .inl yA) := by rw [e_h12, va_up_neq (nek0 (a := 1) (by decide))]; exact F_h__c_1_
  have F_h12__c_5_ : h12 (c + 5) = .inl (1, (l + 1), .inl cA) := by rw [e_h12, va_up_neq (nek0 (a := 5) (by decide))]; exact F_h__c_5_
  have P_h12_fresh : ShX h12 (c + 20) l M := P_h_fresh.zfr (Fr.of e_h12) (fun j h1 h2 => by omega)
  have P_h12_told : RowE h12 (c + 3) 128 := P_h_told.zfr (Fr.of e_h12) (nek0 (a := 3) (by decide)) (nek0 (a := 4) (by decide))
  have P_h12_known : ShT h12 (c + 6) l M tK.1 tK.2 := P_h_known.zfr (Fr.of e_h12) (fun j h1 h2 => by omega)
  have P_h12_held : HeldT h12 (c + 13) l M tH := P_h_held.zfr (Fr.of e_h12) (fun j h1 h2 => by omega)
  have FR_h12 : Fr h h12 (fun j => j = c ∨ j = c + 3 ∨ j = c + 4 ∨ (c + 20 ≤ j ∧ j ≤ c + 26)) := FR_h.zup e_h12 (by first | exact rfl | exact Or.inl rfl | exact Or.inr rfl | exact ⟨by decide, by decide⟩ | decide | omega)
  clear F_h_c F_h__c_1_ F_h__c_5_ P_h_fresh P_h_told P_h_known P_h_held FR_h e_h12
  have hA9 : bA.2 ≤ 2 ^ 30 ∧ (bA.1 = 9 → bA.2 = 2 ^ 30) := by rw [← ecA]; exact chA_le (fun c e => by have := tabC_lt hok hs hK hl e; omega)
  have hB9 : bB.2 ≤ 2 ^ 30 ∧ (bB.1 = 9 → bB.2 = 2 ^ 30) := by
    rw [← ecB]; unfold chB; by_cases z : (cdF ss).2 = 1 ∧ 8 < bA.2
    · rw [if_pos z]; exact ⟨by decide, fun y => absurd y (by decide)⟩
    · rw [if_neg z]; exact hA9
  have hC9 : bC.2 < 2 ^ 30 ∧ bC.1 ≠ 9 := by
    rw [← ecC]; unfold chC; by_cases z : (boF ss (G - 4)).2 < bB.2
    · rw [if_pos z]; exact ⟨by show (boF ss (G - 4)).2 < _; omega, by show ¬ 2 = 9; decide⟩
    · rw [if_neg z]; exact ⟨by omega, fun y => by have := hB9.2 y; omega⟩
  have hfin : cf.1 ≤ 3 ∧ cf.2 < 2 ^ 20 ∧ (cf.1 = 2 → (boF ss (G - 4)).2 < bB.2) ∧ TbOk l M (chT tK tH G ss cf.1) ∧ (cf.1 = 0 → cf.1 = 0) ∧ (cf.1 = 3 → ∃ t, tH = some t) := chF_fin hok hl hG6 hG hM hs hK hH (bA := bA) ecA ecB ecC hcf
  have t146 : ∀ (h2 : Nat → aE) (cho2 : Nat) (mo2 ob2 : Int32), Fr h h2 (fun j => j = c ∨ j = c + 3 ∨ j = c + 4 ∨ (c + 20 ≤ j ∧ j ≤ c + 26)) → h2 c = .inr (1, [.ref ba, .ref wi, .int (nI G), .ref (c + 1), .ref (c + 2), .ref (c + 5), .int (nI ss.length), .int (nI (cdF ss).2), .int ad, .ref (c + 6), .ref (c + 13), .ref (c + 20), .ref cho2, .ref (c + 3), .int mo2, .int (nI cf.2), .int ob2, .int sta]) → ShX h2 (c + 20) l M → RowE h2 (c + 3) 128 → (cf.1 = 9 ∨ (mo2 = nI cf.1 ∧ cho2 = CHO c cf.1)) → cf.2 ≤ 2 ^ 30 → (cf.1 = 9 → cf.2 = 2 ^ 30) → WX (lk tX1_choose) (mM (d + 5)) Ψ 146 [(0, .ref c), (1, .int (nI (clF ss bB.2 (G - 4)).1))] [] (n, s, h2) := by
    have F1 : h (c + 1) = .inl (1, 2667, .inl yA) := (FR_h12 (c + 1) (by omega)).symm.trans F_h12__c_1_
    have F5 : h (c + 5) = .inl (1, (l + 1), .inl cA) := (FR_h12 (c + 5) (by omega)).symm.trans F_h12__c_5_
    intro h2 cho2 mo2 ob2 FR_h2 F_h2_c P_h2_fresh P_h2_told hmo hb30 hb9
    have F_h2__c_1_ : h2 (c + 1) = .inl (1, 2667, .inl yA) := (FR_h2 (c + 1) (by omega)).trans F1
    have F_h2__c_5_ : h2 (c + 5) = .inl (1, (l + 1), .inl cA) := (FR_h2 (c + 5) (by omega)).trans F5
    have P_h2_known := Q_known.zfr FR_h2 (fun j h1 h2 => by omega)
    have P_h2_held := Q_held.zfr FR_h2 (fun j h1 h2 => by omega)
    have hcf3 : cf.1 ≤ 3 ∧ cf.2 < 2 ^ 20 ∧ (cf.1 = 2 → (boF ss (G - 4)).2 < bB.2) ∧ TbOk l M (chT tK tH G ss cf.1) ∧ (cf.1 = 0 → cf.1 = 0) ∧ (cf.1 = 3 → ∃ t, tH = some t) := hfin
    obtain ⟨hc3, hc20, hc2, hTb, -, hcH⟩ := hcf3
    obtain ⟨rfl, rfl⟩ : mo2 = nI cf.1 ∧ cho2 = CHO c cf.1 := by rcases hmo with z | z; omega; exact z
    have hM1 : 1 ≤ M := by rw [hM]; exact Nat.pow_pos (by decide)
    have hx0 := hs _ (getD_mem (show 0 < ss.length by omega))
    refine WX.s1 rfl rfl ?_
    refine WX.get1 (fs := [.ref ba, .ref wi, .int (nI G), .ref (c + 1), .ref (c + 2), .ref (c + 5), .int (nI ss.length), .int (nI (cdF ss).2), .int ad, .ref (c + 6), .ref (c + 13), .ref (c + 20), .ref (CHO c cf.1), .ref (c + 3), .int (nI cf.1), .int (nI cf.2), .int ob2, .int sta]) rfl (by omega) (F_h2_c) rfl ?_
    refine WX.s1 rfl rfl ?_
    refine WX.icmp rfl (fun c_151 => ?_) (fun c_151 => ?_)
    · skip
      have n_151 : ¬ cf.1 = 1 := fun zz_ => c_151 ((nI_eq (a := cf.1) (b := 1) (by omega) (by omega)).mpr zz_)
      refine WX.s1 rfl rfl ?_
      refine WX.get1 (fs := [.ref ba, .ref wi, .int (nI G), .ref (c + 1), .ref (c + 2), .ref (c + 5), .int (nI ss.length), .int (nI (cdF ss).2), .int ad, .ref (c + 6), .ref (c + 13), .ref (c + 20), .ref (CHO c cf.1), .ref (c + 3), .int (nI cf.1), .int (nI cf.2), .int ob2, .int sta]) rfl (by omega) (F_h2_c) rfl ?_
      refine WX.s1 rfl rfl ?_
      refine WX.icmp rfl (fun c_175 => ?_) (fun c_175 => ?_)
      · skip
        have n_175 : ¬ cf.1 = 2 := fun zz_ => c_175 ((nI_eq (a := cf.1) (b := 2) (by omega) (by omega)).mpr zz_)
        refine WX.keep (y := 12) [0] (show ([0, 1] : List Nat).Nodup by decide) rfl ?_
        rw [hba] at F_h2_c
        refine WX.s1 rfl rfl ?_
        refine WX.get1 (fs := [.ref ba, .ref wi, .int (nI G), .ref (c + 1), .ref (c + 2), .ref (c + 5), .int (nI ss.length), .int (nI (cdF ss).2), .int (nI ad0), .ref (c + 6), .ref (c + 13), .ref (c + 20), .ref (CHO c cf.1), .ref (c + 3), .int (nI cf.1), .int (nI cf.2), .int ob2, .int sta]) rfl (by omega) (F_h2_c) rfl ?_
        refine WX.s1 rfl rfl ?_
        refine WX.get1 (fs := [.ref ba, .ref wi, .int (nI G), .ref (c + 1), .ref (c + 2), .ref (c + 5), .int (nI ss.length), .int (nI (cdF ss).2), .int (nI ad0), .ref (c + 6), .ref (c + 13), .ref (c + 20), .ref (CHO c cf.1), .ref (c + 3), .int (nI cf.1), .int (nI cf.2), .int ob2, .int sta]) rfl (by omega) (F_h2_c) rfl ?_
        refine WX.s1 (S' := [.int ((nI cf.2) + (nI ad0))]) rfl rfl ?_
        rw [show ((nI cf.2) + (nI ad0)) = nI (cf.2 + ad0) from nI_add cf.2 ad0]
        rw [← hba] at F_h2_c
        refine WX.ret1 rfl (kk h2 ob2 FR_h2 F_h2_c ?_ hTb P_h2_fresh P_h2_told (fun z => by omega) hc3 hc20)
        rcases (show cf.1 = 0 ∨ cf.1 = 3 by omega) with e1 | e1
        · rw [e1]; exact P_h2_known
        · obtain ⟨t, ht⟩ := hcH e1
          rw [e1]
          have hq := P_h2_held
          rw [ht] at hq ⊢
          exact hq
      · skip
        have n_175 : cf.1 = 2 := (nI_eq (a := cf.1) (b := 2) (by omega) (by omega)).mp (Classical.not_not.mp c_175)
        refine WX.s1 rfl rfl ?_
        refine WX.s1 rfl rfl ?_
        have hbb := hc2 n_175
        have eo : (clF ss bB.2 (G - 4)).1 = (boF ss (G - 4)).1 := by unfold clF; rw [if_pos ⟨by omega, hbb⟩]
        rw [eo]
        refine WX.callC (vs := [.ref c, .int (nI (boF ss (G - 4)).1)]) rfl rfl rfl (Nat.le_of_ble_eq_true rfl) (rcv_ok (by omega) F_h2_c) ?_
        refine x_form hc hl hG6 hG hM hok hs hy hcA bo1 bo2 bo3 F_h2_c F_h2__c_1_ F_h2__c_5_ P_h2_fresh P_h2_told (fun h180 fr180 PT P_h180_told => ?_)
        have F_h180_c : h180 c = .inr (1, [.ref ba, .ref wi, .int (nI G), .ref (c + 1), .ref (c + 2), .ref (c + 5), .int (nI ss.length), .int (nI (cdF ss).2), .int ad, .ref (c + 6), .ref (c + 13), .ref (c + 20), .ref (CHO c cf.1), .ref (c + 3), .int (nI cf.1), .int (nI cf.2), .int ob2, .int sta]) := (fr180 _ (by omega)).trans F_h2_c
        have FR_h180 : Fr h h180 (fun j => j = c ∨ j = c + 3 ∨ j = c + 4 ∨ (c + 20 ≤ j ∧ j ≤ c + 26)) := FR_h2.zsub fr180 (fun j hj => by omega)
        show WX _ _ _ 183 [(0, .ref c), (1, .int (nI (boF ss (G - 4)).1))] [] (n, s, h180)
        refine WX.keep (y := 12) [0] (show ([0, 1] : List Nat).Nodup by decide) rfl ?_
        rw [hba] at F_h180_c
        refine WX.s1 rfl rfl ?_
        refine WX.get1 (fs := [.ref ba, .ref wi, .int (nI G), .ref (c + 1), .ref (c + 2), .ref (c + 5), .int (nI ss.length), .int (nI (cdF ss).2), .int (nI ad0), .ref (c + 6), .ref (c + 13), .ref (c + 20), .ref (CHO c cf.1), .ref (c + 3), .int (nI cf.1), .int (nI cf.2), .int ob2, .int sta]) rfl (by omega) (F_h180_c) rfl ?_
        refine WX.s1 rfl rfl ?_
        refine WX.get1 (fs := [.ref ba, .ref wi, .int (nI G), .ref (c + 1), .ref (c + 2), .ref (c + 5), .int (nI ss.length), .int (nI (cdF ss).2), .int (nI ad0), .ref (c + 6), .ref (c + 13), .ref (c + 20), .ref (CHO c cf.1), .ref (c + 3), .int (nI cf.1), .int (nI cf.2), .int ob2, .int sta]) rfl (by omega) (F_h180_c) rfl ?_
        refine WX.s1 (S' := [.int ((nI cf.2) + (nI ad0))]) rfl rfl ?_
        rw [show ((nI cf.2) + (nI ad0)) = nI (cf.2 + ad0) from nI_add cf.2 ad0]
        rw [← hba] at F_h180_c
        have e1 : cf.1 = 2 := n_175
        refine WX.ret1 rfl (kk h180 ob2 FR_h180 F_h180_c ?_ hTb (PT.toP).toX P_h180_told.toE (fun _ => P_h180_told) hc3 hc20)
        rw [e1]
        exact PT
    · skip
      have n_151 : cf.1 = 1 := (nI_eq (a := cf.1) (b := 1) (by omega) (by omega)).mp (Classical.not_not.mp c_151)
      refine WX.s1 rfl rfl ?_
      refine WX.get1 (fs := [.ref ba, .ref wi, .int (nI G), .ref (c + 1), .ref (c + 2), .ref (c + 5), .int (nI ss.length), .int (nI (cdF ss).2), .int ad, .ref (c + 6), .ref (c + 13), .ref (c + 20), .ref (CHO c cf.1), .ref (c + 3), .int (nI cf.1), .int (nI cf.2), .int ob2, .int sta]) rfl (by omega) (F_h2_c) rfl ?_
      refine WX.s1 rfl rfl ?_
      refine WX.get1 (fs := [.ref ba, .ref wi, .int (nI G), .ref (c + 1), .ref (c + 2), .ref (c + 5), .int (nI ss.length), .int (nI (cdF ss).2), .int ad, .ref (c + 6), .ref (c + 13), .ref (c + 20), .ref (CHO c cf.1), .ref (c + 3), .int (nI cf.1), .int (nI cf.2), .int ob2, .int sta]) rfl (by omega) (F_h2_c) rfl ?_
      refine WX.s1 rfl rfl ?_
      refine WX.iald1 rfl (Or.inl (by omega)) (F_h2__c_1_) (by unfold vp_in; decide) ?_
      rw [show yA (Int32.toNatClampNeg 0) = nI (ss.getD 0 0) from hy 0 (by omega)]
      obtain ⟨od3, th3, pA3, rA3, fA3, wA3, oA3, sA3, q0, q1, q2, q3, q4, q5, q6⟩ := P_h2_fresh
      refine WX.callC (vs := [.ref (c + 20), .int (nI (ss.getD 0 0))]) rfl rfl rfl (Nat.le_of_ble_eq_true rfl) (rcv_ok (by omega) q0) ?_
      refine x_beAlone (by omega) hl hM1 hMb hx0 q0 q1 q2 q3 q4 q5 q6 (fun h164 fr164 PT => ?_)
      have F_h164_c : h164 c = .inr (1, [.ref ba, .ref wi, .int (nI G), .ref (c + 1), .ref (c + 2), .ref (c + 5), .int (nI ss.length), .int (nI (cdF ss).2), .int ad, .ref (c + 6), .ref (c + 13), .ref (c + 20), .ref (CHO c cf.1), .ref (c + 3), .int (nI cf.1), .int (nI cf.2), .int ob2, .int sta]) := (fr164 _ (by omega)).trans F_h2_c
      have FR_h164 : Fr h h164 (fun j => j = c ∨ j = c + 3 ∨ j = c + 4 ∨ (c + 20 ≤ j ∧ j ≤ c + 26)) := FR_h2.zsub fr164 (fun j hj => by omega)
      have P_h164_told := P_h2_told.zfr fr164 (by omega) (by omega)
      show WX _ _ _ 167 [(0, .ref c), (1, .int (nI (clF ss bB.2 (G - 4)).1))] [] (n, s, h164)
      refine WX.s1 rfl rfl ?_
      refine WX.keep (y := 12) [0] (show ([0, 1] : List Nat).Nodup by decide) rfl ?_
      rw [hba] at F_h164_c
      refine WX.s1 rfl rfl ?_
      refine WX.get1 (fs := [.ref ba, .ref wi, .int (nI G), .ref (c + 1), .ref (c + 2), .ref (c + 5), .int (nI ss.length), .int (nI (cdF ss).2), .int (nI ad0), .ref (c + 6), .ref (c + 13), .ref (c + 20), .ref (CHO c cf.1), .ref (c + 3), .int (nI cf.1), .int (nI cf.2), .int ob2, .int sta]) rfl (by omega) (F_h164_c) rfl ?_
      refine WX.s1 rfl rfl ?_
      refine WX.get1 (fs := [.ref ba, .ref wi, .int (nI G), .ref (c + 1), .ref (c + 2), .ref (c + 5), .int (nI ss.length), .int (nI (cdF ss).2), .int (nI ad0), .ref (c + 6), .ref (c + 13), .ref (c + 20), .ref (CHO c cf.1), .ref (c + 3), .int (nI cf.1), .int (nI cf.2), .int ob2, .int sta]) rfl (by omega) (F_h164_c) rfl ?_
      refine WX.s1 (S' := [.int ((nI cf.2) + (nI ad0))]) rfl rfl ?_
      rw [show ((nI cf.2) + (nI ad0)) = nI (cf.2 + ad0) from nI_add cf.2 ad0]
      rw [← hba] at F_h164_c
      have e1 : cf.1 = 1 := n_151
      refine WX.ret1 rfl (kk h164 ob2 FR_h164 F_h164_c ?_ hTb (PT.toP).toX P_h164_told (fun z => by omega) hc3 hc20)
      rw [e1]
      exact PT
  have t98 : ∀ (h2 : Nat → aE) (cho2 : Nat) (mo2 ob2 : Int32), Fr h h2 (fun j => j = c ∨ j = c + 3 ∨ j = c + 4 ∨ (c + 20 ≤ j ∧ j ≤ c + 26)) → h2 c = .inr (1, [.ref ba, .ref wi, .int (nI G), .ref (c + 1), .ref (c + 2), .ref (c + 5), .int (nI ss.length), .int (nI (cdF ss).2), .int ad, .ref (c + 6), .ref (c + 13), .ref (c + 20), .ref cho2, .ref (c + 3), .int mo2, .int (nI bC.2), .int ob2, .int sta]) → ShX h2 (c + 20) l M → RowE h2 (c + 3) 128 → (bC.1 = 9 ∨ (mo2 = nI bC.1 ∧ cho2 = CHO c bC.1)) → bC.2 ≤ 2 ^ 30 → (bC.1 = 9 → bC.2 = 2 ^ 30) → WX (lk tX1_choose) (mM (d + 5)) Ψ 98 [(0, .ref c), (1, .int (nI (clF ss bB.2 (G - 4)).1))] [] (n, s, h2) := by
    have F1 : h (c + 1) = .inl (1, 2667, .inl yA) := (FR_h12 (c + 1) (by omega)).symm.trans F_h12__c_1_
    have F5 : h (c + 5) = .inl (1, (l + 1), .inl cA) := (FR_h12 (c + 5) (by omega)).symm.trans F_h12__c_5_
    intro h2 cho2 mo2 ob2 FR_h2 F_h2_c P_h2_fresh P_h2_told hmo hb30 hb9
    have F_h2__c_1_ : h2 (c + 1) = .inl (1, 2667, .inl yA) := (FR_h2 (c + 1) (by omega)).trans F1
    have F_h2__c_5_ : h2 (c + 5) = .inl (1, (l + 1), .inl cA) := (FR_h2 (c + 5) (by omega)).trans F5
    have P_h2_known := Q_known.zfr FR_h2 (fun j h1 h2 => by omega)
    have P_h2_held := Q_held.zfr FR_h2 (fun j h1 h2 => by omega)
    have hbC := hC9
    obtain ⟨rfl, rfl⟩ : mo2 = nI bC.1 ∧ cho2 = CHO c bC.1 := by rcases hmo with z | z; exact absurd z hC9.2; exact z
    cases tH with
    | none =>
      have ecf : cf = bC := hcf.symm
      obtain ⟨od3, pA3, rA3, fA3, wA3, oA3, sA3, q0, q1, q2, q3, q4, q5, q6⟩ := P_h2_held
      have F_h2__c_13_ : h2 (c + 13) = _ := q0
      refine WX.s1 rfl rfl ?_
      refine WX.get1 (fs := [.ref ba, .ref wi, .int (nI G), .ref (c + 1), .ref (c + 2), .ref (c + 5), .int (nI ss.length), .int (nI (cdF ss).2), .int ad, .ref (c + 6), .ref (c + 13), .ref (c + 20), .ref (CHO c bC.1), .ref (c + 3), .int (nI bC.1), .int (nI bC.2), .int ob2, .int sta]) rfl (by omega) (F_h2_c) rfl ?_
      refine WX.get1 (fs := [.int (nI l), .ref (c + 13 + 1), .ref (c + 13 + 2), .ref (c + 13 + 3), .ref (c + 13 + 4), .ref (c + 13 + 5), .ref (c + 13 + 6), .int od3, .int 0]) rfl (by omega) (F_h2__c_13_) rfl ?_
      refine WX.if_ rfl (fun c_105 => ?_) (fun c_105 => absurd (rfl) c_105)
      rw [ecf] at t146
      exact t146 h2 _ _ ob2 FR_h2 F_h2_c P_h2_fresh P_h2_told (Or.inr ⟨rfl, rfl⟩) (by omega) (fun z => absurd z hC9.2)
    | some tt =>
      obtain ⟨q0, -, -⟩ := ShT.s P_h2_held
      have P_h2_heldT : ShT h2 (c + 13) l M tt.1 tt.2 := P_h2_held
      have hHt : TbOk l M tt := hH
      have F_h2__c_13_ : h2 (c + 13) = _ := q0
      refine WX.s1 rfl rfl ?_
      refine WX.get1 (fs := [.ref ba, .ref wi, .int (nI G), .ref (c + 1), .ref (c + 2), .ref (c + 5), .int (nI ss.length), .int (nI (cdF ss).2), .int ad, .ref (c + 6), .ref (c + 13), .ref (c + 20), .ref (CHO c bC.1), .ref (c + 3), .int (nI bC.1), .int (nI bC.2), .int ob2, .int sta]) rfl (by omega) (F_h2_c) rfl ?_
      refine WX.get1 (fs := [.int (nI l), .ref (c + 13 + 1), .ref (c + 13 + 2), .ref (c + 13 + 3), .ref (c + 13 + 4), .ref (c + 13 + 5), .ref (c + 13 + 6), .int (nI tt.1), .int 1]) rfl (by omega) (F_h2__c_13_) rfl ?_
      refine WX.if_ rfl (fun c_105 => absurd c_105 (by decide)) (fun c_105 => ?_)
      refine WX.s1 rfl rfl ?_
      refine WX.get1 (fs := [.ref ba, .ref wi, .int (nI G), .ref (c + 1), .ref (c + 2), .ref (c + 5), .int (nI ss.length), .int (nI (cdF ss).2), .int ad, .ref (c + 6), .ref (c + 13), .ref (c + 20), .ref (CHO c bC.1), .ref (c + 3), .int (nI bC.1), .int (nI bC.2), .int ob2, .int sta]) rfl (by omega) (F_h2_c) rfl ?_
      refine WX.s1 rfl rfl ?_
      refine WX.get1 (fs := [.ref ba, .ref wi, .int (nI G), .ref (c + 1), .ref (c + 2), .ref (c + 5), .int (nI ss.length), .int (nI (cdF ss).2), .int ad, .ref (c + 6), .ref (c + 13), .ref (c + 20), .ref (CHO c bC.1), .ref (c + 3), .int (nI bC.1), .int (nI bC.2), .int ob2, .int sta]) rfl (by omega) (F_h2_c) rfl ?_
      refine WX.callC (vs := [.ref (c + 13), .ref (c + 5)]) rfl rfl rfl (Nat.le_of_ble_eq_true rfl) (((P_h2_heldT.toP).toX).rcv (by omega)) ?_
      refine xt_canTell (by omega) (by omega) hl (P_h2_heldT.toP) F_h2__c_5_ hC (fun hall => ?_) (fun hno => ?_)
      · skip
        show WX _ _ _ 119 [(0, .ref c), (1, .int (nI (clF ss bB.2 (G - 4)).1))] [.int 1] (n, s, h2)
        have hall2 := (all_iff hs).mp hall
        refine WX.if_ rfl (fun c_119 => absurd c_119 (by decide)) (fun c_119 => ?_)
        clear c_119
        refine WX.s1 rfl rfl ?_
        refine WX.s1 rfl rfl ?_
        refine WX.s1 rfl rfl ?_
        refine WX.get1 (fs := [.ref ba, .ref wi, .int (nI G), .ref (c + 1), .ref (c + 2), .ref (c + 5), .int (nI ss.length), .int (nI (cdF ss).2), .int ad, .ref (c + 6), .ref (c + 13), .ref (c + 20), .ref (CHO c bC.1), .ref (c + 3), .int (nI bC.1), .int (nI bC.2), .int ob2, .int sta]) rfl (by omega) (F_h2_c) rfl ?_
        refine WX.s1 rfl rfl ?_
        refine WX.get1 (fs := [.ref ba, .ref wi, .int (nI G), .ref (c + 1), .ref (c + 2), .ref (c + 5), .int (nI ss.length), .int (nI (cdF ss).2), .int ad, .ref (c + 6), .ref (c + 13), .ref (c + 20), .ref (CHO c bC.1), .ref (c + 3), .int (nI bC.1), .int (nI bC.2), .int ob2, .int sta]) rfl (by omega) (F_h2_c) rfl ?_
        refine WX.s1 rfl rfl ?_
        refine WX.get1 (fs := [.ref ba, .ref wi, .int (nI G), .ref (c + 1), .ref (c + 2), .ref (c + 5), .int (nI ss.length), .int (nI (cdF ss).2), .int ad, .ref (c + 6), .ref (c + 13), .ref (c + 20), .ref (CHO c bC.1), .ref (c + 3), .int (nI bC.1), .int (nI bC.2), .int ob2, .int sta]) rfl (by omega) (F_h2_c) rfl ?_
        refine WX.s1 rfl rfl ?_
        refine WX.get1 (fs := [.ref ba, .ref wi, .int (nI G), .ref (c + 1), .ref (c + 2), .ref (c + 5), .int (nI ss.length), .int (nI (cdF ss).2), .int ad, .ref (c + 6), .ref (c + 13), .ref (c + 20), .ref (CHO c bC.1), .ref (c + 3), .int (nI bC.1), .int (nI bC.2), .int ob2, .int sta]) rfl (by omega) (F_h2_c) rfl ?_
        refine WX.callC (vs := [.ref (c + 13), .ref (c + 1), .int (nI ss.length)]) rfl rfl rfl (Nat.le_of_ble_eq_true rfl) (((P_h2_heldT.toP).toX).rcv (by omega)) ?_
        refine xt_rowBits (by omega) hl hHt.1 hHt.2.1 hHt.2.2.1 hMb P_h2_heldT (by omega) (by decide) hok3 hok2 (fun i hi => ⟨hy i hi, hs _ (getD_mem hi), hall2 _ (getD_mem hi)⟩) F_h2__c_1_ (fun rc p hR => ?_)
        have hrc := hrb hHt.2.1 hR
        have ecf : cf = if rc < bC.2 then (3, rc) else bC := by rw [← hcf]; show chD (tabC tt ss) bC = _; rw [tabC_some hHt hl hall2 hR]; rfl
        show WX _ _ _ 143 [(0, .ref c), (1, .int (nI (clF ss bB.2 (G - 4)).1))] [.int (nI rc), .ref (c + 13), .int 3, .ref c] (n, s, h2)
        refine WX.callC (vs := [.ref c, .int 3, .ref (c + 13), .int (nI rc)]) rfl rfl rfl (Nat.le_of_ble_eq_true rfl) (rcv_ok (by omega) F_h2_c) ?_
        refine x_consider (by omega) (by omega) (by omega) F_h2_c (fun hlt h143 fr143 F_h143_c => ?_) (fun hge => ?_)
        · skip
          have FR_h143 : Fr h h143 (fun j => j = c ∨ j = c + 3 ∨ j = c + 4 ∨ (c + 20 ≤ j ∧ j ≤ c + 26)) := FR_h2.zsub fr143 (fun j hj => by omega)
          have P_h143_fresh : ShX h143 (c + 20) l M := P_h2_fresh.zfr fr143 (fun j h1 h2 => by omega)
          have P_h143_told : RowE h143 (c + 3) 128 := P_h2_told.zfr fr143 (by omega) (by omega)
          have P_h143_known : ShT h143 (c + 6) l M tK.1 tK.2 := P_h2_known.zfr fr143 (fun j h1 h2 => by omega)
          have P_h143_held : HeldT h143 (c + 13) l M (some tt) := P_h2_held.zfr fr143 (fun j h1 h2 => by omega)
          show WX _ _ _ 146 [(0, .ref c), (1, .int (nI (clF ss bB.2 (G - 4)).1))] [] (n, s, h143)
          rw [if_pos hlt] at ecf
          rw [ecf] at t146
          exact t146 h143 _ _ ob2 FR_h143 F_h143_c P_h143_fresh P_h143_told (Or.inr ⟨rfl, rfl⟩) (by show rc ≤ _; omega) (fun z => absurd z (by show ¬ 3 = 9; decide))
        · skip
          show WX _ _ _ 146 [(0, .ref c), (1, .int (nI (clF ss bB.2 (G - 4)).1))] [] (n, s, h2)
          rw [if_neg (by omega)] at ecf
          rw [ecf] at t146
          exact t146 h2 _ _ ob2 FR_h2 F_h2_c P_h2_fresh P_h2_told (Or.inr ⟨rfl, rfl⟩) (by omega) (fun z => absurd z hC9.2)
      · skip
        show WX _ _ _ 119 [(0, .ref c), (1, .int (nI (clF ss bB.2 (G - 4)).1))] [.int 0] (n, s, h2)
        have ecf : cf = bC := by rw [← hcf]; show chD (tabC tt ss) bC = bC; rw [tabC_none (hex hno)]; rfl
        refine WX.if_ rfl (fun c_119 => ?_) (fun c_119 => absurd (by decide) c_119)
        clear c_119
        rw [ecf] at t146
        exact t146 h2 _ _ ob2 FR_h2 F_h2_c P_h2_fresh P_h2_told (Or.inr ⟨rfl, rfl⟩) (by omega) (fun z => absurd z hC9.2)
  have t72 : ∀ (h2 : Nat → aE) (cho2 : Nat) (mo2 ob2 : Int32), Fr h h2 (fun j => j = c ∨ j = c + 3 ∨ j = c + 4 ∨ (c + 20 ≤ j ∧ j ≤ c + 26)) → h2 c = .inr (1, [.ref ba, .ref wi, .int (nI G), .ref (c + 1), .ref (c + 2), .ref (c + 5), .int (nI ss.length), .int (nI (cdF ss).2), .int ad, .ref (c + 6), .ref (c + 13), .ref (c + 20), .ref cho2, .ref (c + 3), .int mo2, .int (nI bB.2), .int ob2, .int sta]) → ShX h2 (c + 20) l M → RowE h2 (c + 3) 128 → (bB.1 = 9 ∨ (mo2 = nI bB.1 ∧ cho2 = CHO c bB.1)) → bB.2 ≤ 2 ^ 30 → (bB.1 = 9 → bB.2 = 2 ^ 30) → WX (lk tX1_choose) (mM (d + 5)) Ψ 72 [(0, .ref c)] [] (n, s, h2) := by
    have F1 : h (c + 1) = .inl (1, 2667, .inl yA) := (FR_h12 (c + 1) (by omega)).symm.trans F_h12__c_1_
    have F5 : h (c + 5) = .inl (1, (l + 1), .inl cA) := (FR_h12 (c + 5) (by omega)).symm.trans F_h12__c_5_
    intro h2 cho2 mo2 ob2 FR_h2 F_h2_c P_h2_fresh P_h2_told hmo hb30 hb9
    have F_h2__c_1_ : h2 (c + 1) = .inl (1, 2667, .inl yA) := (FR_h2 (c + 1) (by omega)).trans F1
    have F_h2__c_5_ : h2 (c + 5) = .inl (1, (l + 1), .inl cA) := (FR_h2 (c + 5) (by omega)).trans F5
    have P_h2_known := Q_known.zfr FR_h2 (fun j h1 h2 => by omega)
    have P_h2_held := Q_held.zfr FR_h2 (fun j h1 h2 => by omega)
    have ecC2 := ecC.symm
    unfold chC at ecC2
    refine WX.s1 rfl rfl ?_
    refine WX.s1 rfl rfl ?_
    refine WX.get1 (fs := [.ref ba, .ref wi, .int (nI G), .ref (c + 1), .ref (c + 2), .ref (c + 5), .int (nI ss.length), .int (nI (cdF ss).2), .int ad, .ref (c + 6), .ref (c + 13), .ref (c + 20), .ref cho2, .ref (c + 3), .int mo2, .int (nI bB.2), .int ob2, .int sta]) rfl (by omega) (F_h2_c) rfl ?_
    refine WX.callC (vs := [.ref c, .int (nI bB.2)]) rfl rfl rfl (Nat.le_of_ble_eq_true rfl) (rcv_ok (by omega) F_h2_c) ?_
    refine x_orderBelow hc hl hG6 hG hM hok hs hy hcA hb30 F_h2_c F_h2__c_1_ F_h2__c_5_ P_h2_fresh P_h2_told (fun h77 fr77 F_h77_c P_h77_fresh P_h77_told => ?_)
    have FR_h77 : Fr h h77 (fun j => j = c ∨ j = c + 3 ∨ j = c + 4 ∨ (c + 20 ≤ j ∧ j ≤ c + 26)) := FR_h2.ztr fr77
    show WX _ _ _ 80 [(0, .ref c)] [.int (nI (clF ss bB.2 (G - 4)).1)] (n, s, h77)
    by_cases hbb : (boF ss (G - 4)).2 < bB.2
    · skip
      have ecl : clF ss bB.2 (G - 4) = boF ss (G - 4) := if_pos ⟨by omega, hbb⟩
      rw [if_pos hbb] at ecC2
      rw [ecl] at F_h77_c t98 ⊢
      refine WX.s1 (L' := [(0, .ref c), (1, .int (nI (boF ss (G - 4)).1))]) rfl rfl ?_
      refine WX.s1 rfl rfl ?_
      refine WX.if_ rfl (fun c_82 => absurd c_82 (fun zz_ => absurd ((nI_leI (a := (boF ss (G - 4)).1) (b := 0) (by omega) (by omega)).mp zz_) (Nat.not_le.mpr (by omega)))) (fun c_82 => ?_)
      clear c_82
      refine WX.s1 rfl rfl ?_
      refine WX.s1 rfl rfl ?_
      refine WX.s1 rfl rfl ?_
      refine WX.get1 (fs := [.ref ba, .ref wi, .int (nI G), .ref (c + 1), .ref (c + 2), .ref (c + 5), .int (nI ss.length), .int (nI (cdF ss).2), .int ad, .ref (c + 6), .ref (c + 13), .ref (c + 20), .ref cho2, .ref (c + 3), .int mo2, .int (nI bB.2), .int (nI (boF ss (G - 4)).2), .int sta]) rfl (by omega) (F_h77_c) rfl ?_
      refine WX.s1 rfl rfl ?_
      refine WX.get1 (fs := [.ref ba, .ref wi, .int (nI G), .ref (c + 1), .ref (c + 2), .ref (c + 5), .int (nI ss.length), .int (nI (cdF ss).2), .int ad, .ref (c + 6), .ref (c + 13), .ref (c + 20), .ref cho2, .ref (c + 3), .int mo2, .int (nI bB.2), .int (nI (boF ss (G - 4)).2), .int sta]) rfl (by omega) (F_h77_c) rfl ?_
      refine WX.callC (vs := [.ref c, .int 2, .ref (c + 20), .int (nI (boF ss (G - 4)).2)]) rfl rfl rfl (Nat.le_of_ble_eq_true rfl) (rcv_ok (by omega) F_h77_c) ?_
      refine x_consider (by omega) (by omega) (by omega) F_h77_c (fun hlt h95 fr95 F_h95_c => ?_) (fun hge => ?_)
      · skip
        have FR_h95 : Fr h h95 (fun j => j = c ∨ j = c + 3 ∨ j = c + 4 ∨ (c + 20 ≤ j ∧ j ≤ c + 26)) := FR_h77.zsub fr95 (fun j hj => by omega)
        have P_h95_fresh : ShX h95 (c + 20) l M := P_h77_fresh.zfr fr95 (fun j h1 h2 => by omega)
        have P_h95_told : RowE h95 (c + 3) 128 := P_h77_told.zfr fr95 (by omega) (by omega)
        show WX _ _ _ 98 [(0, .ref c), (1, .int (nI (boF ss (G - 4)).1))] [] (n, s, h95)
        rw [ecC2] at t98
        exact t98 h95 _ _ _ FR_h95 F_h95_c P_h95_fresh P_h95_told (Or.inr ⟨rfl, rfl⟩) (by show (boF ss (G - 4)).2 ≤ _; omega) (fun z => absurd z (by show ¬ 2 = 9; decide))
      · skip
        show WX _ _ _ 98 [(0, .ref c), (1, .int (nI (boF ss (G - 4)).1))] [] (n, s, h77)
        exact absurd hbb (by omega)
    · skip
      have ecl : clF ss bB.2 (G - 4) = (0, bB.2) := if_neg (fun q => hbb q.2)
      rw [if_neg hbb] at ecC2
      rw [ecl] at F_h77_c t98 ⊢
      rw [ecC2] at t98
      refine WX.s1 (L' := [(0, .ref c), (1, .int (nI 0))]) rfl rfl ?_
      refine WX.s1 rfl rfl ?_
      refine WX.if_ rfl (fun c_82 => ?_) (fun c_82 => absurd (by decide) c_82)
      exact t98 h77 _ _ _ FR_h77 F_h77_c P_h77_fresh P_h77_told hmo hb30 hb9
  have t53 : ∀ (h2 : Nat → aE) (cho2 : Nat) (mo2 ob2 : Int32), Fr h h2 (fun j => j = c ∨ j = c + 3 ∨ j = c + 4 ∨ (c + 20 ≤ j ∧ j ≤ c + 26)) → h2 c = .inr (1, [.ref ba, .ref wi, .int (nI G), .ref (c + 1), .ref (c + 2), .ref (c + 5), .int (nI ss.length), .int (nI (cdF ss).2), .int ad, .ref (c + 6), .ref (c + 13), .ref (c + 20), .ref cho2, .ref (c + 3), .int mo2, .int (nI bA.2), .int ob2, .int sta]) → ShX h2 (c + 20) l M → RowE h2 (c + 3) 128 → (bA.1 = 9 ∨ (mo2 = nI bA.1 ∧ cho2 = CHO c bA.1)) → bA.2 ≤ 2 ^ 30 → (bA.1 = 9 → bA.2 = 2 ^ 30) → WX (lk tX1_choose) (mM (d + 5)) Ψ 53 [(0, .ref c)] [] (n, s, h2) := by
    have F1 : h (c + 1) = .inl (1, 2667, .inl yA) := (FR_h12 (c + 1) (by omega)).symm.trans F_h12__c_1_
    have F5 : h (c + 5) = .inl (1, (l + 1), .inl cA) := (FR_h12 (c + 5) (by omega)).symm.trans F_h12__c_5_
    intro h2 cho2 mo2 ob2 FR_h2 F_h2_c P_h2_fresh P_h2_told hmo hb30 hb9
    have F_h2__c_1_ : h2 (c + 1) = .inl (1, 2667, .inl yA) := (FR_h2 (c + 1) (by omega)).trans F1
    have F_h2__c_5_ : h2 (c + 5) = .inl (1, (l + 1), .inl cA) := (FR_h2 (c + 5) (by omega)).trans F5
    have P_h2_known := Q_known.zfr FR_h2 (fun j h1 h2 => by omega)
    have P_h2_held := Q_held.zfr FR_h2 (fun j h1 h2 => by omega)
    have ecB2 := ecB.symm
    unfold chB at ecB2
    refine WX.s1 rfl rfl ?_
    refine WX.get1 (fs := [.ref ba, .ref wi, .int (nI G), .ref (c + 1), .ref (c + 2), .ref (c + 5), .int (nI ss.length), .int (nI (cdF ss).2), .int ad, .ref (c + 6), .ref (c + 13), .ref (c + 20), .ref cho2, .ref (c + 3), .int mo2, .int (nI bA.2), .int ob2, .int sta]) rfl (by omega) (F_h2_c) rfl ?_
    refine WX.s1 rfl rfl ?_
    refine WX.icmp rfl (fun c_58 => ?_) (fun c_58 => ?_)
    · skip
      have n_58 : ¬ ((cdF ss).2) = 1 := fun zz_ => c_58 ((nI_eq (a := (cdF ss).2) (b := 1) (by omega) (by omega)).mpr zz_)
      rw [if_neg (fun q => n_58 q.1)] at ecB2
      rw [ecB2] at t72
      exact t72 h2 _ _ _ FR_h2 F_h2_c P_h2_fresh P_h2_told hmo hb30 hb9
    · skip
      have n_58 : ((cdF ss).2) = 1 := (nI_eq (a := (cdF ss).2) (b := 1) (by omega) (by omega)).mp (Classical.not_not.mp c_58)
      refine WX.s1 rfl rfl ?_
      refine WX.s1 rfl rfl ?_
      refine WX.s1 rfl rfl ?_
      refine WX.get1 (fs := [.ref ba, .ref wi, .int (nI G), .ref (c + 1), .ref (c + 2), .ref (c + 5), .int (nI ss.length), .int (nI (cdF ss).2), .int ad, .ref (c + 6), .ref (c + 13), .ref (c + 20), .ref cho2, .ref (c + 3), .int mo2, .int (nI bA.2), .int ob2, .int sta]) rfl (by omega) (F_h2_c) rfl ?_
      refine WX.s1 rfl rfl ?_
      refine WX.callC (vs := [.ref c, .int 1, .ref (c + 20), .int (nI 8)]) rfl rfl rfl (Nat.le_of_ble_eq_true rfl) (rcv_ok (by omega) F_h2_c) ?_
      refine x_consider (by omega) (by omega) (by omega) F_h2_c (fun hlt h69 fr69 F_h69_c => ?_) (fun hge => ?_)
      · skip
        have FR_h69 : Fr h h69 (fun j => j = c ∨ j = c + 3 ∨ j = c + 4 ∨ (c + 20 ≤ j ∧ j ≤ c + 26)) := FR_h2.zsub fr69 (fun j hj => by omega)
        have P_h69_fresh : ShX h69 (c + 20) l M := P_h2_fresh.zfr fr69 (fun j h1 h2 => by omega)
        have P_h69_told : RowE h69 (c + 3) 128 := P_h2_told.zfr fr69 (by omega) (by omega)
        have P_h69_known : ShT h69 (c + 6) l M tK.1 tK.2 := P_h2_known.zfr fr69 (fun j h1 h2 => by omega)
        have P_h69_held : HeldT h69 (c + 13) l M tH := P_h2_held.zfr fr69 (fun j h1 h2 => by omega)
        show WX _ _ _ 72 [(0, .ref c)] [] (n, s, h69)
        rw [if_pos ⟨n_58, hlt⟩] at ecB2
        rw [ecB2] at t72
        exact t72 h69 _ _ _ FR_h69 F_h69_c P_h69_fresh P_h69_told (Or.inr ⟨rfl, rfl⟩) (by decide) (fun z => absurd z (by decide))
      · skip
        show WX _ _ _ 72 [(0, .ref c)] [] (n, s, h2)
        rw [if_neg (fun q => by omega)] at ecB2
        rw [ecB2] at t72
        exact t72 h2 _ _ _ FR_h2 F_h2_c P_h2_fresh P_h2_told hmo hb30 hb9
  have F_h12_cc : h12 c = .inr (1, [.ref ba, .ref wi, .int (nI G), .ref (c + 1), .ref (c + 2), .ref (c + 5), .int (nI ss.length), .int (nI (cdF ss).2), .int ad, .ref (c + 6), .ref (c + 13), .ref (c + 20), .ref cho, .ref (c + 3), .int mo, .int (nI (2 ^ 30)), .int ob, .int sta]) := F_h12_c
  clear F_h12_c
  have F_h12_c := F_h12_cc
  clear F_h12_cc
  refine WX.s1 rfl rfl ?_
  refine WX.get1 (fs := [.ref ba, .ref wi, .int (nI G), .ref (c + 1), .ref (c + 2), .ref (c + 5), .int (nI ss.length), .int (nI (cdF ss).2), .int ad, .ref (c + 6), .ref (c + 13), .ref (c + 20), .ref cho, .ref (c + 3), .int mo, .int (nI (2 ^ 30)), .int ob, .int sta]) rfl (by omega) (F_h12_c) rfl ?_
  refine WX.s1 rfl rfl ?_
  refine WX.get1 (fs := [.ref ba, .ref wi, .int (nI G), .ref (c + 1), .ref (c + 2), .ref (c + 5), .int (nI ss.length), .int (nI (cdF ss).2), .int ad, .ref (c + 6), .ref (c + 13), .ref (c + 20), .ref cho, .ref (c + 3), .int mo, .int (nI (2 ^ 30)), .int ob, .int sta]) rfl (by omega) (F_h12_c) rfl ?_
  refine WX.callC (vs := [.ref (c + 6), .ref (c + 5)]) rfl rfl rfl (Nat.le_of_ble_eq_true rfl) (((P_h12_known.toP).toX).rcv (by omega)) ?_
  refine xt_canTell (by omega) (by omega) hl (P_h12_known.toP) F_h12__c_5_ hC (fun hall => ?_) (fun hno => ?_)
  · skip
    show WX _ _ _ 26 [(0, .ref c)] [.int 1] (n, s, h12)
    have hall2 := (all_iff hs).mp hall
    refine WX.if_ rfl (fun c_26 => absurd c_26 (by decide)) (fun c_26 => ?_)
    clear c_26
    refine WX.s1 rfl rfl ?_
    refine WX.s1 rfl rfl ?_
    refine WX.s1 rfl rfl ?_
    refine WX.get1 (fs := [.ref ba, .ref wi, .int (nI G), .ref (c + 1), .ref (c + 2), .ref (c + 5), .int (nI ss.length), .int (nI (cdF ss).2), .int ad, .ref (c + 6), .ref (c + 13), .ref (c + 20), .ref cho, .ref (c + 3), .int mo, .int (nI (2 ^ 30)), .int ob, .int sta]) rfl (by omega) (F_h12_c) rfl ?_
    refine WX.s1 rfl rfl ?_
    refine WX.get1 (fs := [.ref ba, .ref wi, .int (nI G), .ref (c + 1), .ref (c + 2), .ref (c + 5), .int (nI ss.length), .int (nI (cdF ss).2), .int ad, .ref (c + 6), .ref (c + 13), .ref (c + 20), .ref cho, .ref (c + 3), .int mo, .int (nI (2 ^ 30)), .int ob, .int sta]) rfl (by omega) (F_h12_c) rfl ?_
    refine WX.s1 rfl rfl ?_
    refine WX.get1 (fs := [.ref ba, .ref wi, .int (nI G), .ref (c + 1), .ref (c + 2), .ref (c + 5), .int (nI ss.length), .int (nI (cdF ss).2), .int ad, .ref (c + 6), .ref (c + 13), .ref (c + 20), .ref cho, .ref (c + 3), .int mo, .int (nI (2 ^ 30)), .int ob, .int sta]) rfl (by omega) (F_h12_c) rfl ?_
    refine WX.s1 rfl rfl ?_
    refine WX.get1 (fs := [.ref ba, .ref wi, .int (nI G), .ref (c + 1), .ref (c + 2), .ref (c + 5), .int (nI ss.length), .int (nI (cdF ss).2), .int ad, .ref (c + 6), .ref (c + 13), .ref (c + 20), .ref cho, .ref (c + 3), .int mo, .int (nI (2 ^ 30)), .int ob, .int sta]) rfl (by omega) (F_h12_c) rfl ?_
    refine WX.callC (vs := [.ref (c + 6), .ref (c + 1), .int (nI ss.length)]) rfl rfl rfl (Nat.le_of_ble_eq_true rfl) (((P_h12_known.toP).toX).rcv (by omega)) ?_
    refine xt_rowBits (by omega) hl hK.1 hK.2.1 hK.2.2.1 hMb P_h12_known (by omega) (by decide) hok3 hok2 (fun i hi => ⟨hy i hi, hs _ (getD_mem hi), hall2 _ (getD_mem hi)⟩) F_h12__c_1_ (fun rc p hR => ?_)
    have hrc := hrb hK.2.1 hR
    have e1 : bA = (0, rc) := by rw [← ecA, tabC_some hK hl hall2 hR]; rfl
    show WX _ _ _ 50 [(0, .ref c)] [.int (nI rc), .ref (c + 6), .int 0, .ref c] (n, s, h12)
    refine WX.callC (vs := [.ref c, .int 0, .ref (c + 6), .int (nI rc)]) rfl rfl rfl (Nat.le_of_ble_eq_true rfl) (rcv_ok (by omega) F_h12_c) ?_
    refine x_consider (by omega) (by omega) (by omega) F_h12_c (fun hlt h50 fr50 F_h50_c => ?_) (fun hge => ?_)
    · skip
      have FR_h50 : Fr h h50 (fun j => j = c ∨ j = c + 3 ∨ j = c + 4 ∨ (c + 20 ≤ j ∧ j ≤ c + 26)) := FR_h12.zsub fr50 (fun j hj => by omega)
      have P_h50_fresh : ShX h50 (c + 20) l M := P_h12_fresh.zfr fr50 (fun j h1 h2 => by omega)
      have P_h50_told : RowE h50 (c + 3) 128 := P_h12_told.zfr fr50 (by omega) (by omega)
      have P_h50_known : ShT h50 (c + 6) l M tK.1 tK.2 := P_h12_known.zfr fr50 (fun j h1 h2 => by omega)
      have P_h50_held : HeldT h50 (c + 13) l M tH := P_h12_held.zfr fr50 (fun j h1 h2 => by omega)
      show WX _ _ _ 53 [(0, .ref c)] [] (n, s, h50)
      rw [e1] at t53
      exact t53 h50 _ _ _ FR_h50 F_h50_c P_h50_fresh P_h50_told (Or.inr ⟨rfl, rfl⟩) (by show rc ≤ _; omega) (fun z => absurd z (by show ¬ 0 = 9; decide))
    · skip
      show WX _ _ _ 53 [(0, .ref c)] [] (n, s, h12)
      exact absurd hge (by omega)
  · skip
    show WX _ _ _ 26 [(0, .ref c)] [.int 0] (n, s, h12)
    have e1 : bA = (9, 2 ^ 30) := by rw [← ecA, tabC_none (hex hno)]; rfl
    refine WX.if_ rfl (fun c_26 => ?_) (fun c_26 => absurd (by decide) c_26)
    clear c_26
    rw [e1] at t53
    exact t53 h12 _ _ _ FR_h12 F_h12_c P_h12_fresh P_h12_told (Or.inl rfl) (Nat.le_refl _) (fun _ => rfl)
