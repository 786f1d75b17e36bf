/-! states: from a place to the one before it -/
def stW (o m g T : Nat) : Nat := if m ≤ T / 2 ^ (o - g) then o - g else o - g - 1
theorem stW_ok {o m g T : Nat} (h1 : 2 ^ g ≤ m) (h2 : m < 2 ^ (g + 1)) (hg : g ≤ o) (hm : m ≤ 2 ^ o) (hT1 : 2 ^ o ≤ T) (hT2 : T < 2 ^ (o + 1)) : m ≤ T / 2 ^ (stW o m g T) ∧ T / 2 ^ (stW o m g T) < 2 * m ∧ ∃ x, 2 ^ x ≤ T / 2 ^ (stW o m g T) ∧ T / 2 ^ (stW o m g T) < 2 ^ (x + 1) ∧ stW o m g T = o - x ∧ x ≤ o := by
  unfold stW
  by_cases q : m ≤ T / 2 ^ (o - g)
  · rw [if_pos q]
    have e : 2 ^ (o + 1) = 2 ^ (o - g) * 2 ^ (g + 1) := by rw [← Nat.pow_add]; congr 1; omega
    have l : T / 2 ^ (o - g) < 2 ^ (g + 1) := Nat.div_lt_of_lt_mul (by rw [← e]; exact hT2)
    have l2 : 2 ^ (g + 1) ≤ 2 * m := by rw [Nat.pow_succ]; omega
    exact ⟨q, by omega, g, by omega, l, rfl, hg⟩
  · rw [if_neg q]
    have hgo : g < o := by
      apply Classical.byContradiction
      intro z
      apply q
      rw [show o - g = 0 by omega, Nat.pow_zero, Nat.div_one]
      omega
    have e1 : 2 ^ (o - g) = 2 ^ (o - g - 1) * 2 := by rw [← Nat.pow_succ]; congr 1; omega
    have d1 : T / 2 ^ (o - g) = T / 2 ^ (o - g - 1) / 2 := by rw [e1, Nat.div_div_eq_div_mul]
    have e2 : 2 ^ o = 2 ^ (o - g - 1) * 2 ^ (g + 1) := by rw [← Nat.pow_add]; congr 1; omega
    have l1 : 2 ^ (g + 1) ≤ T / 2 ^ (o - g - 1) := (Nat.le_div_iff_mul_le (Nat.pow_pos (by decide))).mpr (by rw [Nat.mul_comm, ← e2]; exact hT1)
    have e3 : 2 ^ (g + 1 + 1) = 2 ^ (g + 1) * 2 := Nat.pow_succ ..
    exact ⟨by omega, by omega, g + 1, l1, by omega, by omega, hgo⟩
theorem st_uniq {o m T x y a b : Nat} (hx : m ≤ x) (hx2 : x < 2 * m) (hy : m ≤ y) (hy2 : y < 2 * m) (a1 : 2 ^ a ≤ x) (a2 : x < 2 ^ (a + 1)) (b1 : 2 ^ b ≤ y) (b2 : y < 2 ^ (b + 1)) (ha : a ≤ o) (hb : b ≤ o) (ex : T / 2 ^ (o - a) = x) (ey : T / 2 ^ (o - b) = y) : x = y ∧ a = b := by
  have key : ∀ {x y a b : Nat}, m ≤ x → y < 2 * m → a ≤ o → b ≤ o → T / 2 ^ (o - a) = x → T / 2 ^ (o - b) = y → ¬ a < b := by
    intro x y a b hx hy2 ha hb ex ey z
    have e : 2 ^ (o - a) = 2 ^ (o - b) * 2 ^ (b - a) := by rw [← Nat.pow_add]; congr 1; omega
    have d : T / 2 ^ (o - a) = T / 2 ^ (o - b) / 2 ^ (b - a) := by rw [e, Nat.div_div_eq_div_mul]
    rw [ex, ey] at d
    have p : 2 ^ 1 ≤ 2 ^ (b - a) := Nat.pow_le_pow_right (by decide) (by omega)
    have q : y / 2 ^ (b - a) ≤ y / 2 ^ 1 := Nat.div_le_div_left p (by decide)
    omega
  have n1 := key hx hy2 ha hb ex ey
  have n2 := key hy hx2 hb ha ey ex
  obtain rfl : a = b := by omega
  exact ⟨ex.symm.trans ey, rfl⟩
def IsLow (u : Nat → Nat) (N o s p : Nat) : Prop := p < 2 ^ o ∧ ownF u N o p = s ∧ rkF u N o s p = 0
def IsNx (u : Nat → Nat) (N o s st p W : Nat) : Prop := p < 2 ^ o ∧ ownF u N o p = s ∧ ∃ g, 2 ^ g ≤ massU (u s) + rkF u N o s p ∧ massU (u s) + rkF u N o s p < 2 ^ (g + 1) ∧ g ≤ o ∧ W = o - g ∧ (st + 2 ^ o) / 2 ^ W = massU (u s) + rkF u N o s p
theorem rk_inj {u : Nat → Nat} {N o s p q : Nat} (hp : ownF u N o p = s) (hq : ownF u N o q = s) (h : rkF u N o s p = rkF u N o s q) : p = q := by
  have key : ∀ {p q : Nat}, ownF u N o p = s → rkF u N o s p = rkF u N o s q → ¬ p < q := by
    intro p q hp h z
    have m : rkF u N o s (p + 1) ≤ rkF u N o s q := sumN_mono _ (by omega)
    rw [rk_succ, show isE (ownF u N o p) s = 1 from if_pos hp] at m
    omega
  have n1 := key hp h
  have n2 := key hq h.symm
  omega
theorem low_uniq {u : Nat → Nat} {N o s p q : Nat} (a : IsLow u N o s p) (b : IsLow u N o s q) : p = q := rk_inj a.2.1 b.2.1 (a.2.2.trans b.2.2.symm)
theorem nx_uniq {u : Nat → Nat} {N o s st p q V W : Nat} (h1 : o = 0 ∨ 5 ≤ o) (h2 : o ≤ 9) (hS : mSum u N = 2 ^ o) (a : IsNx u N o s st p V) (b : IsNx u N o s st q W) : p = q ∧ V = W := by
  obtain ⟨a1, a2, g, a3, a4, a5, a6, a7⟩ := a
  obtain ⟨b1, b2, f, b3, b4, b5, b6, b7⟩ := b
  have r1 := rk_own (u := u) (N := N) h1 h2 hS a1
  have r2 := rk_own (u := u) (N := N) h1 h2 hS b1
  rw [a2] at r1
  rw [b2] at r2
  subst a6
  subst b6
  obtain ⟨e1, e2⟩ := st_uniq (m := massU (u s)) (by omega) (by omega) (by omega) (by omega) a3 a4 b3 b4 a5 b5 a7 b7
  refine ⟨rk_inj a2 b2 (by omega), by rw [e2]⟩
def RowC (u : Nat → Nat) (N o : Nat) : List Nat → Nat → Nat → Prop
  | [], _, _ => False
  | [s], c, p => IsLow u N o s p ∧ c = o
  | s :: t :: r, c, p => ∃ c2 p2 W, RowC u N o (t :: r) c2 p2 ∧ IsNx u N o s p2 p W ∧ c = c2 + W
theorem row_uniq {u : Nat → Nat} {N o : Nat} (h1 : o = 0 ∨ 5 ≤ o) (h2 : o ≤ 9) (hS : mSum u N = 2 ^ o) : ∀ (l : List Nat) (c p d q : Nat), RowC u N o l c p → RowC u N o l d q → c = d ∧ p = q := by
  intro l
  induction l with
  | nil => intro c p d q a; exact a.elim
  | cons s l ih =>
    intro c p d q a b
    cases l with
    | nil => exact ⟨a.2.trans b.2.symm, low_uniq a.1 b.1⟩
    | cons t r =>
      obtain ⟨c2, p2, W, a1, a2, a3⟩ := a
      obtain ⟨d2, q2, V, b1, b2, b3⟩ := b
      obtain ⟨rfl, rfl⟩ := ih c2 p2 d2 q2 a1 b1
      obtain ⟨e1, e2⟩ := nx_uniq h1 h2 hS a2 b2
      exact ⟨by omega, e1⟩
theorem plc_ex {u : Nat → Nat} {N o s r : Nat} : ∀ {P : Nat}, r < rkF u N o s P → ∃ p, p < P ∧ ownF u N o p = s ∧ rkF u N o s p = r := by
  intro P
  induction P with
  | zero => intro h; exact absurd h (Nat.not_lt_zero _)
  | succ P ih =>
    intro h
    rw [rk_succ] at h
    rcases Nat.lt_or_ge r (rkF u N o s P) with z | z
    · obtain ⟨p, a, b⟩ := ih z
      exact ⟨p, by omega, b⟩
    · unfold isE at h
      by_cases q : ownF u N o P = s
      · rw [if_pos q] at h
        exact ⟨P, by omega, q, by omega⟩
      · rw [if_neg q] at h
        omega
theorem plc {u : Nat → Nat} {N o s r : Nat} (h1 : o = 0 ∨ 5 ≤ o) (h2 : o ≤ 9) (hS : mSum u N = 2 ^ o) (hs : s < N) (hr : r < massU (u s)) : ∃ p, p < 2 ^ o ∧ ownF u N o p = s ∧ rkF u N o s p = r := plc_ex (by rw [show rkF u N o s (2 ^ o) = massU (u s) from own_mass h1 h2 hS hs]; exact hr)
def ShS (h : Nat → aE) (k l M o : Nat) (u : Nat → Nat) : Prop := ∃ pA fA wA sA : Nat → Int32, h (k + 1) = .inl (1, l + 1, .inl pA) ∧ h (k + 3) = .inl (1, l + 1, .inl fA) ∧ h (k + 4) = .inl (1, l + 1, .inl wA) ∧ h (k + 6) = .inl (1, M, .inl sA) ∧ UIs pA u (l + 1) ∧ (∀ s, s ≤ l → fA s = nI (mSum u s)) ∧ (∀ s, s ≤ l → massU (u s) ≠ 0 → ∃ g, 2 ^ g ≤ massU (u s) ∧ massU (u s) < 2 ^ (g + 1) ∧ wA s = nI (o - g)) ∧ (∀ p, p < 2 ^ o → sA (slotF u (l + 1) o p) = nI p)
set_option maxRecDepth 20000 in
theorem x_lowest {d n s : Nat} {h : Nat → aE} {k l o M x : Nat} {th : Int32} {u : Nat → Nat}  (hk : k + 6 < n) (hl : l < 64) (ho5 : o = 0 ∨ 5 ≤ o) (ho : o ≤ 9) (hM : 2 ^ o ≤ M) (hMb : M < 2 ^ 20) (hS : mSum u (l + 1) = 2 ^ o) (hA : ShS h k l M o u) (hs : x ≤ l) (hm : massU (u x) ≠ 0) (F_h_k : h k = .inr (8, [.int (nI l), .ref (k + 1), .ref (k + 2), .ref (k + 3), .ref (k + 4), .ref (k + 5), .ref (k + 6), .int (nI o), .int th]))  {Ψ : Option Value → aH → Prop} (kk : ∀ p, IsLow u (l + 1) o x p → Ψ (some (.int (nI p))) (n, s, h)) : WO (mM (d + 1)) 107 [.ref k, .int (nI x)] (n, s, h) Ψ := by
  refine WO.of (Nat.le_of_ble_eq_true rfl) ?_
  have h2o : 2 ^ o ≤ 2 ^ 9 := Nat.pow_le_pow_right (by decide) ho
  have h2p : 0 < 2 ^ o := Nat.pow_pos (by decide)
  obtain ⟨pA, fA, wA, sA, F_h__k_1_, F_h__k_3_, F_h__k_4_, F_h__k_6_, hU, hF, hW, hSo⟩ := hA
  have hmm : mSum u (x + 1) ≤ 2 ^ o := by rw [← hS]; exact mSum_mono u (by omega)
  rw [mSum_succ] at hmm
  have hux := (hU x (by omega)).2
  show WX (lk tX8_lowest) (mM d) Ψ 0 [(0, .ref k), (1, .int (nI x))] [] (n, s, h)
  refine WX.s1 rfl rfl ?_
  refine WX.get1 (fs := [.int (nI l), .ref (k + 1), .ref (k + 2), .ref (k + 3), .ref (k + 4), .ref (k + 5), .ref (k + 6), .int (nI o), .int th]) rfl (by omega) (F_h_k) rfl ?_
  refine WX.s1 rfl rfl ?_
  refine WX.iald1 rfl (Or.inl (by omega)) (F_h__k_3_) (vp_in_nI (by omega) (by omega)) ?_
  rw [nI_clamp (by omega), hF x hs]
  obtain ⟨p, p1, p2, p3⟩ := plc ho5 ho hS (show x < l + 1 by omega) (show 0 < massU (u x) by omega)
  have hsl := hSo p p1
  rw [show slotF u (l + 1) o p = mSum u x by unfold slotF; rw [p2, p3, Nat.add_zero]] at hsl
  refine WX.s1 (L' := [(0, .ref k), (1, .int (nI x)), (2, .int (nI (mSum u x)))]) rfl rfl ?_
  refine WX.s1 rfl rfl ?_
  refine WX.if_ rfl (fun c_8 => absurd c_8 (fun zz_ => absurd ((nI_ltI (a := mSum u x) (b := 0) (by omega) (by omega)).mp zz_) (Nat.not_lt.mpr (by omega)))) (fun c_8 => ?_)
  clear c_8
  refine WX.s1 rfl rfl ?_
  refine WX.s1 rfl rfl ?_
  refine WX.get1 (fs := [.int (nI l), .ref (k + 1), .ref (k + 2), .ref (k + 3), .ref (k + 4), .ref (k + 5), .ref (k + 6), .int (nI o), .int th]) rfl (by omega) (F_h_k) rfl ?_
  refine WX.len1 rfl (Or.inl ⟨by omega, by decide⟩) (F_h__k_6_) ?_
  refine WX.icmp rfl (fun c_17 => absurd c_17 (fun zz_ => absurd ((nI_leI (a := M) (b := mSum u x) (by omega) (by omega)).mp zz_) (Nat.not_le.mpr (by omega)))) (fun c_17 => ?_)
  clear c_17
  refine WX.s1 rfl rfl ?_
  refine WX.get1 (fs := [.int (nI l), .ref (k + 1), .ref (k + 2), .ref (k + 3), .ref (k + 4), .ref (k + 5), .ref (k + 6), .int (nI o), .int th]) rfl (by omega) (F_h_k) rfl ?_
  refine WX.s1 rfl rfl ?_
  refine WX.iald1 rfl (Or.inl (by omega)) (F_h__k_6_) (vp_in_nI (by omega) (by omega)) ?_
  rw [nI_clamp (by omega), hsl]
  refine WX.s1 rfl rfl ?_
  exact WX.ret1 rfl (kk p ⟨p1, p2, p3⟩)
set_option maxRecDepth 20000 in
theorem x_width {d n s : Nat} {h : Nat → aE} {k l o M x : Nat} {th : Int32} {u : Nat → Nat} {st : Nat}  (hk : k + 6 < n) (hl : l < 64) (ho5 : o = 0 ∨ 5 ≤ o) (ho : o ≤ 9) (hM : 2 ^ o ≤ M) (hMb : M < 2 ^ 20) (hS : mSum u (l + 1) = 2 ^ o) (hA : ShS h k l M o u) (hs : x ≤ l) (hm : massU (u x) ≠ 0) (hst : st < 2 ^ o) (F_h_k : h k = .inr (8, [.int (nI l), .ref (k + 1), .ref (k + 2), .ref (k + 3), .ref (k + 4), .ref (k + 5), .ref (k + 6), .int (nI o), .int th]))  {Ψ : Option Value → aH → Prop} (kk : ∀ V p, IsNx u (l + 1) o x st p V → Ψ (some (.int (nI V))) (n, s, h)) : WO (mM (d + 1)) 108 [.ref k, .int (nI x), .int (nI st)] (n, s, h) Ψ := by
  refine WO.of (Nat.le_of_ble_eq_true rfl) ?_
  have h2o : 2 ^ o ≤ 2 ^ 9 := Nat.pow_le_pow_right (by decide) ho
  have h2p : 0 < 2 ^ o := Nat.pow_pos (by decide)
  obtain ⟨pA, fA, wA, sA, F_h__k_1_, F_h__k_3_, F_h__k_4_, F_h__k_6_, hU, hF, hW, hSo⟩ := hA
  have hmm : mSum u (x + 1) ≤ 2 ^ o := by rw [← hS]; exact mSum_mono u (by omega)
  rw [mSum_succ] at hmm
  have hux := (hU x (by omega)).2
  show WX (lk tX8_width) (mM d) Ψ 0 [(0, .ref k), (1, .int (nI x)), (2, .int (nI st))] [] (n, s, h)
  refine WX.s1 rfl rfl ?_
  refine WX.get1 (fs := [.int (nI l), .ref (k + 1), .ref (k + 2), .ref (k + 3), .ref (k + 4), .ref (k + 5), .ref (k + 6), .int (nI o), .int th]) rfl (by omega) (F_h_k) rfl ?_
  refine WX.s1 rfl rfl ?_
  refine WX.iald1 rfl (Or.inl (by omega)) (F_h__k_4_) (vp_in_nI (by omega) (by omega)) ?_
  obtain ⟨g, g1, g2, hw⟩ := hW x hs hm
  have hgo : g ≤ o := by apply Classical.byContradiction; intro z; have := Nat.pow_le_pow_right (show 0 < 2 by decide) (show o + 1 ≤ g by omega); rw [Nat.pow_succ] at this; omega
  rw [nI_clamp (by omega), hw]
  have hok := stW_ok (T := (st + 2 ^ o)) g1 g2 hgo (by omega) (by omega) (by rw [Nat.pow_succ]; omega)
  refine WX.s1 (L' := [(0, .ref k), (1, .int (nI x)), (2, .int (nI st)), (3, .int (nI (o - g)))]) rfl rfl ?_
  refine WX.s1 rfl rfl ?_
  refine WX.s1 rfl rfl ?_
  refine WX.s1 rfl rfl ?_
  refine WX.get1 (fs := [.int (nI l), .ref (k + 1), .ref (k + 2), .ref (k + 3), .ref (k + 4), .ref (k + 5), .ref (k + 6), .int (nI o), .int th]) rfl (by omega) (F_h_k) rfl ?_
  refine WX.s1 (S' := [.int (1 <<< ((nI o) &&& 31)), .int (nI st)]) rfl rfl ?_
  rw [sh1 o (by omega)]
  refine WX.s1 (S' := [.int ((nI st) + (nI (2 ^ o)))]) rfl rfl ?_
  rw [show ((nI st) + (nI (2 ^ o))) = nI (st + 2 ^ o) from nI_add st (2 ^ o)]
  refine WX.s1 rfl rfl ?_
  refine WX.s1 (S' := [.int ((nI (st + 2 ^ o)) >>> ((nI (o - g)) &&& 31))]) rfl rfl ?_
  rw [pk_shrN (by omega) _ (o - g) (sm31 _ (by omega))]
  refine WX.s1 rfl rfl ?_
  refine WX.get1 (fs := [.int (nI l), .ref (k + 1), .ref (k + 2), .ref (k + 3), .ref (k + 4), .ref (k + 5), .ref (k + 6), .int (nI o), .int th]) rfl (by omega) (F_h_k) rfl ?_
  refine WX.s1 rfl rfl ?_
  refine WX.iald1 rfl (Or.inl (by omega)) (F_h__k_1_) (vp_in_nI (by omega) (by omega)) ?_
  rw [nI_clamp (by omega), (hU x (by omega)).1]
  refine WX.s1 (S' := [.int (if 0 ≤ (qI (u x)) then (qI (u x)) else 0 - (qI (u x))), .int (nI ((st + 2 ^ o) / 2 ^ (o - g)))]) rfl rfl ?_
  rw [qI_abs (by omega)]
  have hdl : (st + 2 ^ o) / 2 ^ (o - g) ≤ (st + 2 ^ o) := Nat.div_le_self _ _
  refine WX.icmp rfl (fun c_26 => ?_) (fun c_26 => ?_)
  · skip
    have n_26 : ((st + 2 ^ o) / 2 ^ (o - g)) < (massU (u x)) := (nI_ltI (a := (st + 2 ^ o) / 2 ^ (o - g)) (b := massU (u x)) (by omega) (by omega)).mp c_26
    refine WX.s1 rfl rfl ?_
    refine WX.s1 rfl rfl ?_
    refine WX.s1 (S' := [.int ((nI (o - g)) - 1)]) rfl rfl ?_
    rw [nI_pm1 (by apply Nat.pos_of_ne_zero; intro z; rw [z, Nat.pow_zero, Nat.div_one] at n_26; omega)]
    have ev : stW o (massU (u x)) g (st + 2 ^ o) = o - g - 1 := by unfold stW; exact if_neg (by omega)
    rw [ev] at hok
    obtain ⟨k1, k2, y, k3, k4, k5, k6⟩ := hok
    obtain ⟨p, p1, p2, p3⟩ := plc (r := (st + 2 ^ o) / 2 ^ (o - g - 1) - massU (u x)) ho5 ho hS (show x < l + 1 by omega) (by omega)
    exact WX.ret1 rfl (kk _ p ⟨p1, p2, y, by rw [p3]; omega, by rw [p3]; omega, k6, k5, by rw [p3]; omega⟩)
  · skip
    have n_26 : (massU (u x)) ≤ ((st + 2 ^ o) / 2 ^ (o - g)) := Nat.le_of_not_lt (fun zz_ => c_26 ((nI_ltI (a := (st + 2 ^ o) / 2 ^ (o - g)) (b := massU (u x)) (by omega) (by omega)).mpr zz_))
    refine WX.s1 rfl rfl ?_
    refine WX.s1 rfl rfl ?_
    have ev : stW o (massU (u x)) g (st + 2 ^ o) = o - g := by unfold stW; exact if_pos n_26
    rw [ev] at hok
    obtain ⟨k1, k2, y, k3, k4, k5, k6⟩ := hok
    obtain ⟨p, p1, p2, p3⟩ := plc (r := (st + 2 ^ o) / 2 ^ (o - g) - massU (u x)) ho5 ho hS (show x < l + 1 by omega) (by omega)
    exact WX.ret1 rfl (kk _ p ⟨p1, p2, y, by rw [p3]; omega, by rw [p3]; omega, k6, k5, by rw [p3]; omega⟩)
set_option maxRecDepth 20000 in
theorem x_before {d n s : Nat} {h : Nat → aE} {k l o M x : Nat} {th : Int32} {u : Nat → Nat} {st V p : Nat}  (hk : k + 6 < n) (hl : l < 64) (ho5 : o = 0 ∨ 5 ≤ o) (ho : o ≤ 9) (hM : 2 ^ o ≤ M) (hMb : M < 2 ^ 20) (hS : mSum u (l + 1) = 2 ^ o) (hA : ShS h k l M o u) (hs : x ≤ l) (hm : massU (u x) ≠ 0) (hst : st < 2 ^ o) (hN : IsNx u (l + 1) o x st p V) (F_h_k : h k = .inr (8, [.int (nI l), .ref (k + 1), .ref (k + 2), .ref (k + 3), .ref (k + 4), .ref (k + 5), .ref (k + 6), .int (nI o), .int th]))  {Ψ : Option Value → aH → Prop} (kk : Ψ (some (.int (nI p))) (n, s, h)) : WO (mM (d + 1)) 109 [.ref k, .int (nI x), .int (nI st), .int (nI V)] (n, s, h) Ψ := by
  refine WO.of (Nat.le_of_ble_eq_true rfl) ?_
  have h2o : 2 ^ o ≤ 2 ^ 9 := Nat.pow_le_pow_right (by decide) ho
  have h2p : 0 < 2 ^ o := Nat.pow_pos (by decide)
  obtain ⟨pA, fA, wA, sA, F_h__k_1_, F_h__k_3_, F_h__k_4_, F_h__k_6_, hU, hF, hW, hSo⟩ := hA
  have hmm : mSum u (x + 1) ≤ 2 ^ o := by rw [← hS]; exact mSum_mono u (by omega)
  rw [mSum_succ] at hmm
  have hux := (hU x (by omega)).2
  show WX (lk tX8_before) (mM d) Ψ 0 [(0, .ref k), (1, .int (nI x)), (2, .int (nI st)), (3, .int (nI V))] [] (n, s, h)
  refine WX.s1 rfl rfl ?_
  refine WX.get1 (fs := [.int (nI l), .ref (k + 1), .ref (k + 2), .ref (k + 3), .ref (k + 4), .ref (k + 5), .ref (k + 6), .int (nI o), .int th]) rfl (by omega) (F_h_k) rfl ?_
  refine WX.s1 rfl rfl ?_
  refine WX.iald1 rfl (Or.inl (by omega)) (F_h__k_3_) (vp_in_nI (by omega) (by omega)) ?_
  obtain ⟨p1, p2, g, p3, p4, p5, p6, p7⟩ := hN
  have hrk := rk_own (u := u) (N := l + 1) ho5 ho hS p1
  rw [p2] at hrk
  have hsl := hSo p p1
  rw [show slotF u (l + 1) o p = mSum u x + (st + 2 ^ o) / 2 ^ V - massU (u x) by unfold slotF; rw [p2, p7]; omega] at hsl
  rw [nI_clamp (by omega), hF x hs]
  refine WX.s1 rfl rfl ?_
  refine WX.s1 rfl rfl ?_
  refine WX.s1 rfl rfl ?_
  refine WX.get1 (fs := [.int (nI l), .ref (k + 1), .ref (k + 2), .ref (k + 3), .ref (k + 4), .ref (k + 5), .ref (k + 6), .int (nI o), .int th]) rfl (by omega) (F_h_k) rfl ?_
  refine WX.s1 (S' := [.int (1 <<< ((nI o) &&& 31)), .int (nI st), .int (nI (mSum u x))]) rfl rfl ?_
  rw [sh1 o (by omega)]
  refine WX.s1 (S' := [.int ((nI st) + (nI (2 ^ o))), .int (nI (mSum u x))]) rfl rfl ?_
  rw [show ((nI st) + (nI (2 ^ o))) = nI (st + 2 ^ o) from nI_add st (2 ^ o)]
  refine WX.s1 rfl rfl ?_
  refine WX.s1 (S' := [.int ((nI (st + 2 ^ o)) >>> ((nI V) &&& 31)), .int (nI (mSum u x))]) rfl rfl ?_
  rw [pk_shrN (by omega) _ V (sm31 _ (by omega))]
  refine WX.s1 (S' := [.int ((nI (mSum u x)) + (nI ((st + 2 ^ o) / 2 ^ V)))]) rfl rfl ?_
  rw [show ((nI (mSum u x)) + (nI ((st + 2 ^ o) / 2 ^ V))) = nI (mSum u x + ((st + 2 ^ o) / 2 ^ V)) from nI_add (mSum u x) ((st + 2 ^ o) / 2 ^ V)]
  refine WX.s1 rfl rfl ?_
  refine WX.get1 (fs := [.int (nI l), .ref (k + 1), .ref (k + 2), .ref (k + 3), .ref (k + 4), .ref (k + 5), .ref (k + 6), .int (nI o), .int th]) rfl (by omega) (F_h_k) rfl ?_
  refine WX.s1 rfl rfl ?_
  refine WX.iald1 rfl (Or.inl (by omega)) (F_h__k_1_) (vp_in_nI (by omega) (by omega)) ?_
  rw [nI_clamp (by omega), (hU x (by omega)).1]
  refine WX.s1 (S' := [.int (if 0 ≤ (qI (u x)) then (qI (u x)) else 0 - (qI (u x))), .int (nI (mSum u x + ((st + 2 ^ o) / 2 ^ V)))]) rfl rfl ?_
  rw [qI_abs (by omega)]
  refine WX.s1 (S' := [.int ((nI (mSum u x + ((st + 2 ^ o) / 2 ^ V))) - (nI (massU (u x))))]) rfl rfl ?_
  rw [nI_subN (by omega)]
  refine WX.s1 (L' := [(0, .ref k), (1, .int (nI x)), (2, .int (nI st)), (3, .int (nI V)), (4, .int (nI (mSum u x + (st + 2 ^ o) / 2 ^ V - massU (u x))))]) rfl rfl ?_
  refine WX.s1 rfl rfl ?_
  refine WX.if_ rfl (fun c_31 => absurd c_31 (fun zz_ => absurd ((nI_ltI (a := mSum u x + (st + 2 ^ o) / 2 ^ V - massU (u x)) (b := 0) (by omega) (by omega)).mp zz_) (Nat.not_lt.mpr (by omega)))) (fun c_31 => ?_)
  clear c_31
  refine WX.s1 rfl rfl ?_
  refine WX.s1 rfl rfl ?_
  refine WX.get1 (fs := [.int (nI l), .ref (k + 1), .ref (k + 2), .ref (k + 3), .ref (k + 4), .ref (k + 5), .ref (k + 6), .int (nI o), .int th]) rfl (by omega) (F_h_k) rfl ?_
  refine WX.len1 rfl (Or.inl ⟨by omega, by decide⟩) (F_h__k_6_) ?_
  refine WX.icmp rfl (fun c_41 => absurd c_41 (fun zz_ => absurd ((nI_leI (a := M) (b := mSum u x + (st + 2 ^ o) / 2 ^ V - massU (u x)) (by omega) (by omega)).mp zz_) (Nat.not_le.mpr (by omega)))) (fun c_41 => ?_)
  clear c_41
  refine WX.s1 rfl rfl ?_
  refine WX.get1 (fs := [.int (nI l), .ref (k + 1), .ref (k + 2), .ref (k + 3), .ref (k + 4), .ref (k + 5), .ref (k + 6), .int (nI o), .int th]) rfl (by omega) (F_h_k) rfl ?_
  refine WX.s1 rfl rfl ?_
  refine WX.iald1 rfl (Or.inl (by omega)) (F_h__k_6_) (vp_in_nI (by omega) (by omega)) ?_
  rw [nI_clamp (by omega), hsl]
  refine WX.s1 rfl rfl ?_
  exact WX.ret1 rfl kk
