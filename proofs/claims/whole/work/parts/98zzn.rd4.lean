/-! weights read: pure, then the class's -/
theorem lg2_uq {x g : Nat} (h0 : 1 ≤ x) (h1 : 2 ^ g ≤ x) (h2 : x < 2 ^ (g + 1)) : g = Nat.log2 x := ((Nat.log2_eq_iff (by omega)).mpr ⟨h1, h2⟩).symm
theorem lg2_ok {x : Nat} (h0 : 1 ≤ x) : 2 ^ Nat.log2 x ≤ x ∧ x < 2 ^ (Nat.log2 x + 1) := ⟨Nat.log2_self_le (by omega), Nat.lt_log2_self⟩
def osF (u : Nat → Nat) (o p : Nat) : Nat := ownF u 64 o p
def rnF (u : Nat → Nat) (o p : Nat) : Nat := massU (u (osF u o p)) + rkF u 64 o (osF u o p) p
def wdF (u : Nat → Nat) (o p : Nat) : Nat := o - Nat.log2 (rnF u o p)
def mvF (l : List Nat) (u : Nat → Nat) (o p c : Nat) : Nat := rnF u o p * 2 ^ wdF u o p - 2 ^ o + rbN l (c - wdF u o p) (wdF u o p)
def rsF (l : List Nat) (u : Nat → Nat) (o fl : Nat) : Nat → Nat → Nat → Nat → List Nat → Option (List Nat)
  | 0, _, _, _, _ => none
  | t + 1, c, a, b, ws => if c - fl < wdF u o a then some (ws ++ [osF u o a] ++ [osF u o b]) else rsF l u o fl t (c - wdF u o a) b (mvF l u o a c) (ws ++ [osF u o a])
theorem rsF_0 {l : List Nat} {u : Nat → Nat} {o fl t c a b : Nat} {ws : List Nat} (h : c - fl < wdF u o a) : rsF l u o fl (t + 1) c a b ws = some (ws ++ [osF u o a] ++ [osF u o b]) := if_pos h
theorem rsF_1 {l : List Nat} {u : Nat → Nat} {o fl t c a b : Nat} {ws : List Nat} (h : ¬ c - fl < wdF u o a) : rsF l u o fl (t + 1) c a b ws = rsF l u o fl t (c - wdF u o a) b (mvF l u o a c) (ws ++ [osF u o a]) := if_neg h
theorem rn_ok {u : Nat → Nat} {o p : Nat} (h1 : 5 ≤ o) (h2 : o ≤ 9) (hS : mSum u 64 = 2 ^ o) (hp : p < 2 ^ o) : osF u o p < 64 ∧ 1 ≤ rnF u o p ∧ rnF u o p < 2 ^ (o + 1) ∧ Nat.log2 (rnF u o p) ≤ o ∧ 1 ≤ massU (u (osF u o p)) ∧ rkF u 64 o (osF u o p) p + 1 ≤ massU (u (osF u o p)) ∧ massU (u (osF u o p)) ≤ 2 ^ o := by
  have a := own_lt (Or.inr h1) h2 hS hp
  have b := rk_own (Or.inr h1) h2 hS hp
  have c : massU (u (osF u o p)) ≤ mSum u 64 := sumN_get (fun s => massU (u s)) a
  rw [hS] at c
  have e : rnF u o p = massU (u (osF u o p)) + rkF u 64 o (osF u o p) p := rfl
  have d : rkF u 64 o (osF u o p) p + 1 ≤ massU (u (osF u o p)) := b
  have h3 : rnF u o p < 2 ^ (o + 1) := by rw [Nat.pow_succ]; omega
  have h4 : 1 ≤ rnF u o p := by omega
  refine ⟨a, h4, h3, ?_, by omega, d, c⟩
  have q := (lg2_ok h4).1
  apply Classical.byContradiction
  intro z
  have := Nat.pow_le_pow_right (show 0 < 2 by decide) (show o + 1 ≤ Nat.log2 (rnF u o p) by omega)
  omega
theorem mv_lt {l : List Nat} {u : Nat → Nat} {o p c : Nat} (h1 : 5 ≤ o) (h2 : o ≤ 9) (hS : mSum u 64 = 2 ^ o) (hp : p < 2 ^ o) : 2 ^ o ≤ rnF u o p * 2 ^ wdF u o p ∧ mvF l u o p c < 2 ^ o ∧ rnF u o p * 2 ^ wdF u o p < 2 ^ (o + 1) ∧ wdF u o p ≤ 9 := by
  obtain ⟨-, a2, -, a4, -⟩ := rn_ok h1 h2 hS hp
  obtain ⟨b1, b2⟩ := lg2_ok a2
  have e1 : 2 ^ Nat.log2 (rnF u o p) * 2 ^ wdF u o p = 2 ^ o := by rw [← Nat.pow_add]; congr 1; unfold wdF; omega
  have e2 : 2 ^ (Nat.log2 (rnF u o p) + 1) * 2 ^ wdF u o p = 2 ^ (o + 1) := by rw [← Nat.pow_add]; congr 1; unfold wdF; omega
  have r := rb_lt l (c - wdF u o p) (wdF u o p)
  have m1 : 2 ^ Nat.log2 (rnF u o p) * 2 ^ wdF u o p ≤ rnF u o p * 2 ^ wdF u o p := Nat.mul_le_mul_right _ b1
  have m2 : (rnF u o p + 1) * 2 ^ wdF u o p ≤ 2 ^ (Nat.log2 (rnF u o p) + 1) * 2 ^ wdF u o p := Nat.mul_le_mul_right _ b2
  rw [e1] at m1
  rw [e2, Nat.add_mul, Nat.one_mul] at m2
  have p2 : 2 ^ (o + 1) = 2 * 2 ^ o := by rw [Nat.pow_succ]; omega
  have p3 : 0 < 2 ^ wdF u o p := Nat.pow_pos (by decide)
  refine ⟨m1, ?_, by omega, by unfold wdF; omega⟩
  unfold mvF
  omega
def rdW (l : List Nat) (f e : Nat) : Option (List Nat) := (rdS l (8 * e) 6 11 (8 * f)).bind (fun x => if e ≤ (x.2.2 + 7) / 8 ∨ (l).getD (e - 1) 0 = 0 then none else if 8 * (e - 1) + Nat.log2 ((l).getD (e - 1) 0) < 8 * ((x.2.2 + 7) / 8) + 2 * x.1 then none else rsF l x.2.1 x.1 (8 * ((x.2.2 + 7) / 8)) 255 (8 * (e - 1) + Nat.log2 ((l).getD (e - 1) 0) - 2 * x.1) (rbN l (8 * (e - 1) + Nat.log2 ((l).getD (e - 1) 0) - x.1) x.1) (rbN l (8 * (e - 1) + Nat.log2 ((l).getD (e - 1) 0) - 2 * x.1) x.1) [])
theorem pad12 {u : Nat → Nat} {o : Nat} (h1 : 5 ≤ o) (h2 : o ≤ 9) (hS : mSum u (11 + 1) = 2 ^ o) (hz : ∀ j, 11 < j → u j = 1) : mSum u 64 = 2 ^ o ∧ (∀ p, ownF u (11 + 1) o p = ownF u 64 o p) ∧ ∀ s p, rkF u (11 + 1) o s p = rkF u 64 o s p := by
  have q := own_pad (N := 12) (Or.inr h1) h2 hS 52 (fun s h _ => hz s (by omega))
  exact ⟨q.1, fun p => (q.2 p).symm, fun s p => (rk_pad q.2 s p).symm⟩
theorem sub_nle {E x y : Nat} (hE : E < 2 ^ 20) (hx : x < 2 ^ 20) (hy : y < 2 ^ 20) (h : E < y + x) : ¬ nI y ≤ nI E - nI x := by
  rw [Int32.le_iff_toInt_le, Int32.toInt_sub, nI_toInt (by omega), nI_toInt (by omega), nI_toInt (by omega), Int.bmod_eq_of_le (by omega) (by omega)]
  omega
set_option maxRecDepth 20000 in
theorem x_owner {d n s : Nat} {h : Nat → aE} {k la M o p x : Nat} {oA : Nat → Int32}  (hkn : k + 6 < n) (hMb : M < 2 ^ 20) (hp : p < M) (ho : oA p = nI x) (F_h_k : h k = .inr (8, [.int (nI la), .ref (k + 1), .ref (k + 2), .ref (k + 3), .ref (k + 4), .ref (k + 5), .ref (k + 6), .int (nI o), .int 1])) (F_h__k_5_ : h (k + 5) = .inl (1, M, .inl oA))  {Ψ : Option Value → aH → Prop} (kk : Ψ (some (.int (nI x))) (n, s, h)) : WO (mM (d + 1)) 111 [.ref k, .int (nI p)] (n, s, h) Ψ := by
  refine WO.of (Nat.le_of_ble_eq_true rfl) ?_
  have FR_h : Fr h h (fun j => False) := Fr.rf
  show WX (lk tX8_owner) (mM d) Ψ 0 [(0, .ref k), (1, .int (nI p))] [] (n, s, h)
  refine WX.s1 rfl rfl ?_
  refine WX.if_ rfl (fun c_1 => absurd c_1 (fun zz_ => absurd ((nI_ltI (a := p) (b := 0) (by omega) (by omega)).mp zz_) (Nat.not_lt.mpr (by omega)))) (fun c_1 => ?_)
  clear c_1
  refine WX.s1 rfl rfl ?_
  refine WX.s1 rfl rfl ?_
  refine WX.get1 (fs := [.int (nI la), .ref (k + 1), .ref (k + 2), .ref (k + 3), .ref (k + 4), .ref (k + 5), .ref (k + 6), .int (nI o), .int 1]) rfl (by omega) (F_h_k) rfl ?_
  refine WX.len1 rfl (Or.inl ⟨by omega, by decide⟩) (F_h__k_5_) ?_
  refine WX.icmp rfl (fun c_10 => absurd c_10 (fun zz_ => absurd ((nI_leI (a := M) (b := p) (by omega) (by omega)).mp zz_) (Nat.not_le.mpr (by omega)))) (fun c_10 => ?_)
  clear c_10
  refine WX.s1 rfl rfl ?_
  refine WX.get1 (fs := [.int (nI la), .ref (k + 1), .ref (k + 2), .ref (k + 3), .ref (k + 4), .ref (k + 5), .ref (k + 6), .int (nI o), .int 1]) rfl (by omega) (F_h_k) rfl ?_
  refine WX.s1 rfl rfl ?_
  refine WX.iald1 rfl (Or.inl (by omega)) (F_h__k_5_) (vp_in_nI hp (by omega)) ?_
  rw [nI_clamp (by omega), ho]
  refine WX.s1 rfl rfl ?_
  exact WX.ret1 rfl kk
set_option maxRecDepth 20000 in
theorem x_rank {d n s : Nat} {h : Nat → aE} {k M o p : Nat} {u : Nat → Nat} {pA fA oA sA : Nat → Int32}  (hkn : k + 6 < n) (hMb : M < 2 ^ 20) (h5 : 5 ≤ o) (h9 : o ≤ 9) (hM : 2 ^ o ≤ M) (hS : mSum u 64 = 2 ^ o) (hz : ∀ j, 11 < j → u j = 1) (hp : p < 2 ^ o) (hU : UIs pA u (11 + 1)) (hf : ∀ s, s ≤ 11 → fA s = nI (mSum u s)) (ho : ∀ q, q < 2 ^ o → oA q = nI (osF u o q)) (hs : ∀ q, q < 2 ^ o → sA (mSum u (osF u o q) + rkF u 64 o (osF u o q) q) = nI q) (F_h_k : h k = .inr (8, [.int (nI 11), .ref (k + 1), .ref (k + 2), .ref (k + 3), .ref (k + 4), .ref (k + 5), .ref (k + 6), .int (nI o), .int 1])) (F_h__k_1_ : h (k + 1) = .inl (1, (11 + 1), .inl pA)) (F_h__k_3_ : h (k + 3) = .inl (1, (11 + 1), .inl fA)) (F_h__k_5_ : h (k + 5) = .inl (1, M, .inl oA)) (F_h__k_6_ : h (k + 6) = .inl (1, M, .inl sA))  {Ψ : Option Value → aH → Prop} (kk : Ψ (some (.int (nI (rnF u o p)))) (n, s, h)) : WO (mM (d + 2)) 112 [.ref k, .int (nI p)] (n, s, h) Ψ := by
  refine WO.of (Nat.le_of_ble_eq_true rfl) ?_
  have FR_h : Fr h h (fun j => False) := Fr.rf
  obtain ⟨r1, r2, r3, r4, r5, r6, r7⟩ := rn_ok h5 h9 hS hp
  have hp9 : 2 ^ o ≤ 2 ^ 9 := Nat.pow_le_pow_right (by decide) h9
  have hs11 : osF u o p ≤ 11 := by
    apply Classical.byContradiction
    intro z
    rw [hz _ (by omega)] at r5
    exact absurd r5 (by decide)
  have hsl : ∀ q, q < 2 ^ o → mSum u (osF u o q) + rkF u 64 o (osF u o q) q < 2 ^ o := fun q hq => slot_lt (Or.inr h5) h9 hS hq
  show WX (lk tX8_rank) (mM (d + 1)) Ψ 0 [(0, .ref k), (1, .int (nI p))] [] (n, s, h)
  refine WX.s1 rfl rfl ?_
  refine WX.s1 rfl rfl ?_
  refine WX.callC (vs := [.ref k, .int (nI p)]) rfl rfl rfl (Nat.le_of_ble_eq_true rfl) (rcv_ok (by omega) F_h_k) ?_
  refine x_owner (d := d) (x := (osF u o p)) hkn hMb (by omega) (ho p hp) F_h_k F_h__k_5_ ?_
  show WX _ _ _ 5 [(0, .ref k), (1, .int (nI p))] [.int (nI (osF u o p))] (n, s, h)
  refine WX.s1 (L' := [(0, .ref k), (1, .int (nI p)), (2, .int (nI (osF u o p)))]) rfl rfl ?_
  refine WX.s1 rfl rfl ?_
  refine WX.get1 (fs := [.int (nI 11), .ref (k + 1), .ref (k + 2), .ref (k + 3), .ref (k + 4), .ref (k + 5), .ref (k + 6), .int (nI o), .int 1]) rfl (by omega) (F_h_k) rfl ?_
  refine WX.s1 rfl rfl ?_
  refine WX.iald1 rfl (Or.inl (by omega)) (F_h__k_1_) (vp_in_nI (N := 12) (by omega) (by decide)) ?_
  rw [nI_clamp (by omega), (hU (osF u o p) (by omega)).1]
  refine WX.s1 (S' := [.int (if 0 ≤ (qI (u (osF u o p))) then (qI (u (osF u o p))) else 0 - (qI (u (osF u o p))))]) rfl rfl ?_
  rw [qI_abs (by have := (hU (osF u o p) (by omega)).2; omega)]
  refine WX.s1 (L' := [(0, .ref k), (1, .int (nI p)), (2, .int (nI (osF u o p))), (3, .int (nI (massU (u (osF u o p)))))]) rfl rfl ?_
  refine WX.s1 rfl rfl ?_
  refine WX.s1 (L' := [(0, .ref k), (1, .int (nI p)), (2, .int (nI (osF u o p))), (3, .int (nI (massU (u (osF u o p))))), (4, .int 0)]) rfl rfl ?_
  have lp : ∀ (t i : Nat), i + t = (rkF u 64 o (osF u o p) p) → WX (lk tX8_rank) (mM (d + 1)) Ψ 19 [(0, .ref k), (1, .int (nI p)), (2, .int (nI (osF u o p))), (3, .int (nI (massU (u (osF u o p))))), (4, .int (nI i))] [] (n, s, h) := by
    intro t
    induction t with
    | zero =>
      intro i ht
      have ei : i = (rkF u 64 o (osF u o p) p) := by omega
      have h1 := hsl p hp
      refine WX.s1 rfl rfl ?_
      refine WX.s1 rfl rfl ?_
      refine WX.icmp rfl (fun c_22 => absurd c_22 (fun zz_ => absurd ((nI_leI (a := massU (u (osF u o p))) (b := i) (by omega) (by omega)).mp zz_) (Nat.not_le.mpr (by omega)))) (fun c_22 => ?_)
      clear c_22
      refine WX.s1 rfl rfl ?_
      refine WX.get1 (fs := [.int (nI 11), .ref (k + 1), .ref (k + 2), .ref (k + 3), .ref (k + 4), .ref (k + 5), .ref (k + 6), .int (nI o), .int 1]) rfl (by omega) (F_h_k) rfl ?_
      refine WX.s1 rfl rfl ?_
      refine WX.iald1 rfl (Or.inl (by omega)) (F_h__k_3_) (vp_in_nI (N := 12) (by omega) (by decide)) ?_
      rw [nI_clamp (by omega), hf (osF u o p) hs11]
      refine WX.s1 rfl rfl ?_
      refine WX.s1 (S' := [.int ((nI (mSum u (osF u o p))) + (nI i))]) rfl rfl ?_
      rw [show ((nI (mSum u (osF u o p))) + (nI i)) = nI (mSum u (osF u o p) + i) from nI_add (mSum u (osF u o p)) i]
      refine WX.s1 (L' := [(0, .ref k), (1, .int (nI p)), (2, .int (nI (osF u o p))), (3, .int (nI (massU (u (osF u o p))))), (4, .int (nI i)), (5, .int (nI (mSum u (osF u o p) + i)))]) rfl rfl ?_
      refine WX.s1 rfl rfl ?_
      refine WX.s1 rfl rfl ?_
      refine WX.get1 (fs := [.int (nI 11), .ref (k + 1), .ref (k + 2), .ref (k + 3), .ref (k + 4), .ref (k + 5), .ref (k + 6), .int (nI o), .int 1]) rfl (by omega) (F_h_k) rfl ?_
      refine WX.len1 rfl (Or.inl ⟨by omega, by decide⟩) (F_h__k_6_) ?_
      refine WX.icmp rfl (fun c_43 => absurd c_43 (fun zz_ => absurd ((nI_leI (a := M) (b := mSum u (osF u o p) + i) (by omega) (by omega)).mp zz_) (Nat.not_le.mpr (by omega)))) (fun c_43 => ?_)
      clear c_43
      refine WX.s1 rfl rfl ?_
      refine WX.get1 (fs := [.int (nI 11), .ref (k + 1), .ref (k + 2), .ref (k + 3), .ref (k + 4), .ref (k + 5), .ref (k + 6), .int (nI o), .int 1]) rfl (by omega) (F_h_k) rfl ?_
      refine WX.s1 rfl rfl ?_
      refine WX.iald1 rfl (Or.inl (by omega)) (F_h__k_6_) (vp_in_nI (by omega) (by omega)) ?_
      rw [show sA (Int32.toNatClampNeg (nI (mSum u (osF u o p) + i))) = nI p from (by rw [nI_clamp (by omega), ei]; exact hs p hp)]
      refine WX.s1 rfl rfl ?_
      refine WX.icmp rfl (fun c_54 => absurd c_54 (fun zz_ => zz_ ((nI_eq (a := p) (b := p) (by omega) (by omega)).mpr (by omega)))) (fun c_54 => ?_)
      clear c_54
      refine WX.s1 rfl rfl ?_
      refine WX.s1 rfl rfl ?_
      refine WX.s1 (S' := [.int ((nI (massU (u (osF u o p)))) + (nI i))]) rfl rfl ?_
      rw [show ((nI (massU (u (osF u o p)))) + (nI i)) = nI (massU (u (osF u o p)) + i) from nI_add (massU (u (osF u o p))) i]
      have e9 : rnF u o p = (massU (u (osF u o p))) + i := by rw [ei]; rfl
      rw [e9] at kk
      exact WX.ret1 rfl kk
    | succ t ih =>
      intro i ht
      obtain ⟨q, q1, q2, q3⟩ := plc (r := i) (Or.inr h5) h9 hS r1 (show i < (massU (u (osF u o p))) by omega)
      have q4 : osF u o q = (osF u o p) := q2
      have h1 := hsl q q1
      have h2 := hs q q1
      rw [q4, q3] at h1 h2
      have hqp : q ≠ p := fun z => by rw [z] at q3; omega
      refine WX.s1 rfl rfl ?_
      refine WX.s1 rfl rfl ?_
      refine WX.icmp rfl (fun c_22 => absurd c_22 (fun zz_ => absurd ((nI_leI (a := massU (u (osF u o p))) (b := i) (by omega) (by omega)).mp zz_) (Nat.not_le.mpr (by omega)))) (fun c_22 => ?_)
      clear c_22
      refine WX.s1 rfl rfl ?_
      refine WX.get1 (fs := [.int (nI 11), .ref (k + 1), .ref (k + 2), .ref (k + 3), .ref (k + 4), .ref (k + 5), .ref (k + 6), .int (nI o), .int 1]) rfl (by omega) (F_h_k) rfl ?_
      refine WX.s1 rfl rfl ?_
      refine WX.iald1 rfl (Or.inl (by omega)) (F_h__k_3_) (vp_in_nI (N := 12) (by omega) (by decide)) ?_
      rw [nI_clamp (by omega), hf (osF u o p) hs11]
      refine WX.s1 rfl rfl ?_
      refine WX.s1 (S' := [.int ((nI (mSum u (osF u o p))) + (nI i))]) rfl rfl ?_
      rw [show ((nI (mSum u (osF u o p))) + (nI i)) = nI (mSum u (osF u o p) + i) from nI_add (mSum u (osF u o p)) i]
      refine WX.s1 (L' := [(0, .ref k), (1, .int (nI p)), (2, .int (nI (osF u o p))), (3, .int (nI (massU (u (osF u o p))))), (4, .int (nI i)), (5, .int (nI (mSum u (osF u o p) + i)))]) rfl rfl ?_
      refine WX.s1 rfl rfl ?_
      refine WX.s1 rfl rfl ?_
      refine WX.get1 (fs := [.int (nI 11), .ref (k + 1), .ref (k + 2), .ref (k + 3), .ref (k + 4), .ref (k + 5), .ref (k + 6), .int (nI o), .int 1]) rfl (by omega) (F_h_k) rfl ?_
      refine WX.len1 rfl (Or.inl ⟨by omega, by decide⟩) (F_h__k_6_) ?_
      refine WX.icmp rfl (fun c_43 => absurd c_43 (fun zz_ => absurd ((nI_leI (a := M) (b := mSum u (osF u o p) + i) (by omega) (by omega)).mp zz_) (Nat.not_le.mpr (by omega)))) (fun c_43 => ?_)
      clear c_43
      refine WX.s1 rfl rfl ?_
      refine WX.get1 (fs := [.int (nI 11), .ref (k + 1), .ref (k + 2), .ref (k + 3), .ref (k + 4), .ref (k + 5), .ref (k + 6), .int (nI o), .int 1]) rfl (by omega) (F_h_k) rfl ?_
      refine WX.s1 rfl rfl ?_
      refine WX.iald1 rfl (Or.inl (by omega)) (F_h__k_6_) (vp_in_nI (by omega) (by omega)) ?_
      rw [nI_clamp (by omega), h2]
      refine WX.s1 rfl rfl ?_
      refine WX.icmp rfl (fun c_54 => ?_) (fun c_54 => absurd (fun zz_ => hqp ((nI_eq (a := q) (b := p) (by omega) (by omega)).mp zz_)) c_54)
      refine WX.s1 (L' := [(0, .ref k), (1, .int (nI p)), (2, .int (nI (osF u o p))), (3, .int (nI (massU (u (osF u o p))))), (4, .int ((nI i) + 1)), (5, .int (nI (mSum u (osF u o p) + i)))]) rfl rfl ?_
      rw [show ((nI i) + 1) = nI (i + 1) from nI_add i 1]
      refine WX.s1 rfl rfl ?_
      refine WX.keep (y := 112) [0, 1, 2, 3, 4] (show ([0, 1, 2, 3, 4, 5] : List Nat).Nodup by decide) rfl ?_
      exact ih (i + 1) (by omega)
  exact lp (rkF u 64 o (osF u o p) p) 0 (by omega)
set_option maxRecDepth 20000 in
theorem x_rsL {d n s : Nat} {h : Nat → aE} {be ot o fl c a b : Nat} {l ws : List Nat} {u : Nat → Nat} {wA pA fA oA sA : Nat → Int32} (t : Nat) (hn : 190 ≤ n) (h5 : 5 ≤ o) (h6 : o ≤ 6) (hS : mSum u 64 = 2 ^ o) (hz : ∀ j, 11 < j → u j = 1) (hU : UIs pA u (11 + 1)) (hf_ : ∀ s, s ≤ 11 → fA s = nI (mSum u s)) (ho_ : ∀ q, q < 2 ^ o → oA q = nI (osF u o q)) (hs_ : ∀ q, q < 2 ^ o → sA (mSum u (osF u o q) + rkF u 64 o (osF u o q) q) = nI q) (hflc : fl ≤ c) (hc : c < 2 ^ 18) (ha : a < 2 ^ o) (hb : b < 2 ^ o) (ht : (ws).length + t = 255) (hw : ∀ i, i < (ws).length → wA i = nI ((ws).getD i 0)) (hw1 : ∀ i, (ws).getD i 0 ≤ 11) (F_h_67 : h 67 = .inr (2, [.ref 68, .ref 69, .ref 70, .ref be, .ref ot])) (F_h_68 : h 68 = .inl (1, 256, .inl wA)) (F_h_70 : h 70 = .inr (8, [.int (nI 11), .ref 71, .ref 72, .ref 73, .ref 74, .ref 75, .ref 76, .int (nI o), .int 1])) (F_h_71 : h 71 = .inl (1, 12, .inl pA)) (F_h_73 : h 73 = .inl (1, 12, .inl fA)) (F_h_75 : h 75 = .inl (1, 64, .inl oA)) (F_h_76 : h 76 = .inl (1, 64, .inl sA)) (P_h_in : RowIs h 1 8000 (some l) 0 0) {Ψ : Option Value → aH → Prop} (k0 : rsF l u o fl t c a b ws = none → ∀ h' wA', Fr h h' (fun j => j = 68) → h' 68 = .inl (1, 256, .inl wA') → Ψ (some (.int (-1))) (n, s, h')) (k1 : ∀ w2, rsF l u o fl t c a b ws = some w2 → (∀ i, (w2).getD i 0 ≤ 11) → 2 ≤ (w2).length → (w2).length ≤ 256 → ∀ h' wA', Fr h h' (fun j => j = 68) → h' 68 = .inl (1, 256, .inl wA') → (∀ i, i < (w2).length → wA' i = nI ((w2).getD i 0)) → Ψ (some (.int (nI (w2).length))) (n, s, h')) : WX (lk tX2_readStates) (mM (d + 3)) Ψ 123 [(0, .ref 67), (1, .ref 1), (6, .int (nI fl)), (7, .int (nI c)), (8, .int (nI a)), (9, .int (nI b)), (10, .int (nI (ws).length))] [] (n, s, h) := by
  induction t generalizing h c a b ws wA with
  | zero =>
    refine WX.s1 rfl rfl ?_
    refine WX.s1 rfl rfl ?_
    refine WX.s1 (S' := [.int ((nI (ws).length) + 1)]) rfl rfl ?_
    rw [show ((nI (ws).length) + 1) = nI ((ws).length + 1) from nI_add (ws).length 1]
    refine WX.s1 rfl rfl ?_
    refine WX.get1 (fs := [.ref 68, .ref 69, .ref 70, .ref be, .ref ot]) rfl (by omega) (F_h_67) rfl ?_
    refine WX.len1 rfl (Or.inl ⟨by omega, by decide⟩) (F_h_68) ?_
    refine WX.icmp rfl (fun c_132 => ?_) (fun c_132 => absurd ((nI_leI (a := 256) (b := (ws).length + 1) (by omega) (by omega)).mpr (by omega)) c_132)
    clear c_132
    refine WX.s1 rfl rfl ?_
    exact WX.ret1 rfl (k0 rfl h wA Fr.rf F_h_68)
  | succ t ih =>
    have FR_h : Fr h h (fun j => j = 68) := Fr.rf
    have hp6 : 2 ^ o ≤ 2 ^ 6 := Nat.pow_le_pow_right (by decide) h6
    obtain ⟨r1, r2, r3, r4, r5, r6, r7⟩ := rn_ok h5 (by omega) hS ha
    obtain ⟨m1, m2, m3, m4⟩ := mv_lt (l := l) (c := c) h5 (by omega) hS ha
    have o11 : ∀ p, p < 2 ^ o → osF u o p ≤ 11 := fun p hp => by
      apply Classical.byContradiction
      intro z
      have q := (rn_ok h5 (by omega) hS hp).2.2.2.2.1
      rw [hz _ (by omega)] at q
      exact absurd q (by decide)
    refine WX.s1 rfl rfl ?_
    refine WX.s1 rfl rfl ?_
    refine WX.s1 (S' := [.int ((nI (ws).length) + 1)]) rfl rfl ?_
    rw [show ((nI (ws).length) + 1) = nI ((ws).length + 1) from nI_add (ws).length 1]
    refine WX.s1 rfl rfl ?_
    refine WX.get1 (fs := [.ref 68, .ref 69, .ref 70, .ref be, .ref ot]) rfl (by omega) (F_h_67) rfl ?_
    refine WX.len1 rfl (Or.inl ⟨by omega, by decide⟩) (F_h_68) ?_
    refine WX.icmp rfl (fun c_132 => absurd c_132 (fun zz_ => absurd ((nI_leI (a := 256) (b := (ws).length + 1) (by omega) (by omega)).mp zz_) (Nat.not_le.mpr (by omega)))) (fun c_132 => ?_)
    clear c_132
    refine WX.s1 rfl rfl ?_
    refine WX.get1 (fs := [.ref 68, .ref 69, .ref 70, .ref be, .ref ot]) rfl (by omega) (F_h_67) rfl ?_
    refine WX.s1 rfl rfl ?_
    refine WX.s1 rfl rfl ?_
    refine WX.get1 (fs := [.ref 68, .ref 69, .ref 70, .ref be, .ref ot]) rfl (by omega) (F_h_67) rfl ?_
    refine WX.s1 rfl rfl ?_
    refine WX.callC (vs := [.ref 70, .int (nI a)]) rfl rfl rfl (Nat.le_of_ble_eq_true rfl) (rcv_ok (by omega) F_h_70) ?_
    refine x_owner (d := d + 2) (k := 70) (la := 11) (M := 64) (x := osF u o a) (by omega) (by decide) (by omega) (ho_ a (by omega)) F_h_70 F_h_75 ?_
    show WX _ _ _ 150 [(0, .ref 67), (1, .ref 1), (6, .int (nI fl)), (7, .int (nI c)), (8, .int (nI a)), (9, .int (nI b)), (10, .int (nI (ws).length))] [.int (nI (osF u o a)), .int (nI (ws).length), .ref 68] (n, s, h)
    refine WX.iastN rfl (by omega) (F_h_68) (vp_in_nI (N := 256) (by omega) (by decide)) (fun g150 h150 e_g150 e_h150 => ?_)
    try dsimp only at e_g150
    have F_h150_67 : h150 67 = .inr (2, [.ref 68, .ref 69, .ref 70, .ref be, .ref ot]) := by rw [e_h150, va_up_neq (by omega)]; exact F_h_67
    have F_h150_68 : h150 68 = .inl (1, 256, .inl g150) := by rw [e_h150]; exact va_up_eq
    have F_h150_70 : h150 70 = .inr (8, [.int (nI 11), .ref 71, .ref 72, .ref 73, .ref 74, .ref 75, .ref 76, .int (nI o), .int 1]) := by rw [e_h150, va_up_neq (by omega)]; exact F_h_70
    have F_h150_71 : h150 71 = .inl (1, 12, .inl pA) := by rw [e_h150, va_up_neq (by omega)]; exact F_h_71
    have F_h150_73 : h150 73 = .inl (1, 12, .inl fA) := by rw [e_h150, va_up_neq (by omega)]; exact F_h_73
    have F_h150_75 : h150 75 = .inl (1, 64, .inl oA) := by rw [e_h150, va_up_neq (by omega)]; exact F_h_75
    have F_h150_76 : h150 76 = .inl (1, 64, .inl sA) := by rw [e_h150, va_up_neq (by omega)]; exact F_h_76
    have P_h150_in : RowIs h150 1 8000 (some l) 0 0 := (P_h_in).zfr (Fr.of e_h150) (by omega) (by omega)
    have FR_h150 : Fr h h150 (fun j => j = 68) := (FR_h).zup e_h150 (by first | exact rfl | exact Or.inl rfl | exact Or.inr rfl | exact ⟨by decide, by decide⟩ | decide | omega)
    clear F_h_67 F_h_68 F_h_70 F_h_71 F_h_73 F_h_75 F_h_76 P_h_in FR_h e_h150
    rw [nI_clamp (by omega)] at e_g150
    have hw2 : ∀ i, i < (ws ++ [osF u o a]).length → g150 i = nI ((ws ++ [osF u o a]).getD i 0) := fun i hi => by
      rw [getD_app, e_g150]
      rw [List.length_append, List.length_singleton] at hi
      by_cases z : i = (ws).length
      · rw [if_pos z, z, pk_us]
      · rw [if_neg z, pk_un z]; exact hw i (by omega)
    have hw3 : ∀ i, (ws ++ [osF u o a]).getD i 0 ≤ 11 := fun i => by
      rw [getD_app]; split
      · exact o11 a ha
      · exact hw1 i
    have hwl : (ws ++ [osF u o a]).length = (ws).length + 1 := by rw [List.length_append]; rfl
    clear e_g150
    refine WX.s1 rfl rfl ?_
    refine WX.get1 (fs := [.ref 68, .ref 69, .ref 70, .ref be, .ref ot]) rfl (by omega) (F_h150_67) rfl ?_
    refine WX.s1 rfl rfl ?_
    refine WX.callC (vs := [.ref 70, .int (nI a)]) rfl rfl rfl (Nat.le_of_ble_eq_true rfl) (rcv_ok (by omega) F_h150_70) ?_
    refine x_rank (d := d + 1) (k := 70) (M := 64) (u := u) (by omega) (by decide) h5 (by omega) (by omega) hS hz ha hU hf_ ho_ hs_ F_h150_70 F_h150_71 F_h150_73 F_h150_75 F_h150_76 ?_
    show WX _ _ _ 160 [(0, .ref 67), (1, .ref 1), (6, .int (nI fl)), (7, .int (nI c)), (8, .int (nI a)), (9, .int (nI b)), (10, .int (nI (ws).length))] [.int (nI (rnF u o a))] (n, s, h150)
    refine WX.s1 (L' := [(0, .ref 67), (1, .ref 1), (6, .int (nI fl)), (7, .int (nI c)), (8, .int (nI a)), (9, .int (nI b)), (10, .int (nI (ws).length)), (11, .int (nI (rnF u o a)))]) rfl rfl ?_
    refine WX.s1 rfl rfl ?_
    refine WX.get1 (fs := [.ref 68, .ref 69, .ref 70, .ref be, .ref ot]) rfl (by omega) (F_h150_67) rfl ?_
    refine WX.get1 (fs := [.int (nI 11), .ref 71, .ref 72, .ref 73, .ref 74, .ref 75, .ref 76, .int (nI o), .int 1]) rfl (by omega) (F_h150_70) rfl ?_
    refine WX.s1 rfl rfl ?_
    refine WX.callC (vs := [.int (nI (rnF u o a))]) rfl rfl rfl (Nat.le_of_ble_eq_true rfl) rfl ?_
    refine w_log (d := d + 2) r2 (by omega) (fun g hg1 hg2 => ?_)
    obtain rfl := lg2_uq r2 hg1 hg2
    show WX _ _ _ 174 [(0, .ref 67), (1, .ref 1), (6, .int (nI fl)), (7, .int (nI c)), (8, .int (nI a)), (9, .int (nI b)), (10, .int (nI (ws).length)), (11, .int (nI (rnF u o a)))] [.int (nI (Nat.log2 (rnF u o a))), .int (nI o)] (n, s, h150)
    refine WX.s1 (S' := [.int ((nI o) - (nI (Nat.log2 (rnF u o a))))]) rfl rfl ?_
    rw [show nI o - nI (Nat.log2 (rnF u o a)) = nI (wdF u o a) from nI_subN r4]
    refine WX.s1 (L' := [(0, .ref 67), (1, .ref 1), (6, .int (nI fl)), (7, .int (nI c)), (8, .int (nI a)), (9, .int (nI b)), (10, .int (nI (ws).length)), (11, .int (nI (rnF u o a))), (12, .int (nI (wdF u o a)))]) rfl rfl ?_
    refine WX.s1 rfl rfl ?_
    refine WX.s1 rfl rfl ?_
    refine WX.s1 (S' := [.int ((nI c) - (nI fl))]) rfl rfl ?_
    rw [nI_subN hflc]
    refine WX.s1 rfl rfl ?_
    refine WX.icmp rfl (fun c_184 => ?_) (fun c_184 => ?_)
    · skip
      have n_184 : (wdF u o a) ≤ (c - fl) := (nI_leI (a := wdF u o a) (b := c - fl) (by omega) (by omega)).mp c_184
      refine WX.s1 rfl rfl ?_
      refine WX.s1 rfl rfl ?_
      refine WX.s1 (S' := [.int ((nI c) - (nI (wdF u o a)))]) rfl rfl ?_
      rw [nI_subN (show wdF u o a ≤ c by omega)]
      refine WX.s1 (L' := [(0, .ref 67), (1, .ref 1), (6, .int (nI fl)), (7, .int (nI (c - wdF u o a))), (8, .int (nI a)), (9, .int (nI b)), (10, .int (nI (ws).length)), (11, .int (nI (rnF u o a))), (12, .int (nI (wdF u o a)))]) rfl rfl ?_
      refine WX.s1 rfl rfl ?_
      refine WX.s1 rfl rfl ?_
      refine WX.s1 (S' := [.int ((nI (rnF u o a)) <<< ((nI (wdF u o a)) &&& 31))]) rfl rfl ?_
      rw [pk_shlN _ (wdF u o a) (sm31 _ (by omega)) (by omega)]
      refine WX.s1 rfl rfl ?_
      refine WX.s1 rfl rfl ?_
      refine WX.get1 (fs := [.ref 68, .ref 69, .ref 70, .ref be, .ref ot]) rfl (by omega) (F_h150_67) rfl ?_
      refine WX.get1 (fs := [.int (nI 11), .ref 71, .ref 72, .ref 73, .ref 74, .ref 75, .ref 76, .int (nI o), .int 1]) rfl (by omega) (F_h150_70) rfl ?_
      refine WX.s1 (S' := [.int (1 <<< ((nI o) &&& 31)), .int (nI (rnF u o a * 2 ^ wdF u o a))]) rfl rfl ?_
      rw [sh1 o (by omega)]
      refine WX.s1 (S' := [.int ((nI (rnF u o a * 2 ^ wdF u o a)) - (nI (2 ^ o)))]) rfl rfl ?_
      rw [nI_subN m1]
      refine WX.s1 rfl rfl ?_
      refine WX.s1 rfl rfl ?_
      refine WX.s1 rfl rfl ?_
      refine WX.callC (vs := [.ref 1, .int (nI (c - wdF u o a)), .int (nI (wdF u o a))]) rfl rfl rfl (Nat.le_of_ble_eq_true rfl) ((P_h150_in).rcv (by omega)) ?_
      refine x_bits (d := d + 1) (b := c - wdF u o a) (c := wdF u o a) hn (by omega) (by omega) P_h150_in ?_
      show WX _ _ _ 240 [(0, .ref 67), (1, .ref 1), (6, .int (nI fl)), (7, .int (nI (c - wdF u o a))), (8, .int (nI a)), (9, .int (nI b)), (10, .int (nI (ws).length)), (11, .int (nI (rnF u o a))), (12, .int (nI (wdF u o a)))] [.int (nI (rbN l (c - wdF u o a) (wdF u o a))), .int (nI (rnF u o a * 2 ^ wdF u o a - 2 ^ o))] (n, s, h150)
      refine WX.s1 (S' := [.int ((nI (rnF u o a * 2 ^ wdF u o a - 2 ^ o)) + (nI (rbN l (c - wdF u o a) (wdF u o a))))]) rfl rfl ?_
      rw [nI_add, show rnF u o a * 2 ^ wdF u o a - 2 ^ o + rbN l (c - wdF u o a) (wdF u o a) = mvF l u o a c from rfl]
      refine WX.s1 (L' := [(0, .ref 67), (1, .ref 1), (6, .int (nI fl)), (7, .int (nI (c - wdF u o a))), (8, .int (nI a)), (9, .int (nI b)), (10, .int (nI (ws).length)), (11, .int (nI (rnF u o a))), (12, .int (nI (wdF u o a))), (13, .int (nI (mvF l u o a c)))]) rfl rfl ?_
      refine WX.s1 rfl rfl ?_
      refine WX.s1 (L' := [(0, .ref 67), (1, .ref 1), (6, .int (nI fl)), (7, .int (nI (c - wdF u o a))), (8, .int (nI b)), (9, .int (nI b)), (10, .int (nI (ws).length)), (11, .int (nI (rnF u o a))), (12, .int (nI (wdF u o a))), (13, .int (nI (mvF l u o a c)))]) rfl rfl ?_
      refine WX.s1 rfl rfl ?_
      refine WX.s1 (L' := [(0, .ref 67), (1, .ref 1), (6, .int (nI fl)), (7, .int (nI (c - wdF u o a))), (8, .int (nI b)), (9, .int (nI (mvF l u o a c))), (10, .int (nI (ws).length)), (11, .int (nI (rnF u o a))), (12, .int (nI (wdF u o a))), (13, .int (nI (mvF l u o a c)))]) rfl rfl ?_
      refine WX.s1 (L' := [(0, .ref 67), (1, .ref 1), (6, .int (nI fl)), (7, .int (nI (c - wdF u o a))), (8, .int (nI b)), (9, .int (nI (mvF l u o a c))), (10, .int ((nI (ws).length) + 1)), (11, .int (nI (rnF u o a))), (12, .int (nI (wdF u o a))), (13, .int (nI (mvF l u o a c)))]) rfl rfl ?_
      rw [show ((nI (ws).length) + 1) = nI ((ws).length + 1) from nI_add (ws).length 1]
      refine WX.s1 rfl rfl ?_
      have e1 := rsF_1 (l := l) (t := t) (b := b) (ws := ws) (show ¬ c - fl < wdF u o a by omega)
      rw [e1] at k0
      simp only [e1] at k1
      refine WX.keep (y := 30) [0, 1, 6, 7, 8, 9, 10] (show ([0, 1, 6, 7, 8, 9, 10, 11, 12, 13] : List Nat).Nodup by decide) rfl ?_
      rw [← hwl]
      exact ih (by omega) (by omega) hb m2 (by omega) hw2 hw3 F_h150_67 F_h150_68 F_h150_70 F_h150_71 F_h150_73 F_h150_75 F_h150_76 P_h150_in (fun z h9 w9 f9 F9 => k0 z h9 w9 ((FR_h150).ztr f9) F9) (fun v9 z z1 z2 z3 h9 w9 f9 F9 U9 => k1 v9 z z1 z2 z3 h9 w9 ((FR_h150).ztr f9) F9 U9)
    · skip
      have n_184 : (c - fl) < (wdF u o a) := Nat.lt_of_not_le (fun zz_ => c_184 ((nI_leI (a := wdF u o a) (b := c - fl) (by omega) (by omega)).mpr zz_))
      refine WX.s1 rfl rfl ?_
      refine WX.get1 (fs := [.ref 68, .ref 69, .ref 70, .ref be, .ref ot]) rfl (by omega) (F_h150_67) rfl ?_
      refine WX.s1 rfl rfl ?_
      refine WX.s1 rfl rfl ?_
      refine WX.s1 (S' := [.int ((nI (ws).length) + 1), .ref 68]) rfl rfl ?_
      rw [show ((nI (ws).length) + 1) = nI ((ws).length + 1) from nI_add (ws).length 1]
      refine WX.s1 rfl rfl ?_
      refine WX.get1 (fs := [.ref 68, .ref 69, .ref 70, .ref be, .ref ot]) rfl (by omega) (F_h150_67) rfl ?_
      refine WX.s1 rfl rfl ?_
      refine WX.callC (vs := [.ref 70, .int (nI b)]) rfl rfl rfl (Nat.le_of_ble_eq_true rfl) (rcv_ok (by omega) F_h150_70) ?_
      refine x_owner (d := d + 2) (k := 70) (la := 11) (M := 64) (x := osF u o b) (by omega) (by decide) (by omega) (ho_ b (by omega)) F_h150_70 F_h150_75 ?_
      show WX _ _ _ 204 [(0, .ref 67), (1, .ref 1), (6, .int (nI fl)), (7, .int (nI c)), (8, .int (nI a)), (9, .int (nI b)), (10, .int (nI (ws).length)), (11, .int (nI (rnF u o a))), (12, .int (nI (wdF u o a)))] [.int (nI (osF u o b)), .int (nI ((ws).length + 1)), .ref 68] (n, s, h150)
      refine WX.iastN rfl (by omega) (F_h150_68) (vp_in_nI (N := 256) (by omega) (by decide)) (fun g204 h204 e_g204 e_h204 => ?_)
      try dsimp only at e_g204
      have F_h204_67 : h204 67 = .inr (2, [.ref 68, .ref 69, .ref 70, .ref be, .ref ot]) := by rw [e_h204, va_up_neq (by omega)]; exact F_h150_67
      have F_h204_68 : h204 68 = .inl (1, 256, .inl g204) := by rw [e_h204]; exact va_up_eq
      have F_h204_70 : h204 70 = .inr (8, [.int (nI 11), .ref 71, .ref 72, .ref 73, .ref 74, .ref 75, .ref 76, .int (nI o), .int 1]) := by rw [e_h204, va_up_neq (by omega)]; exact F_h150_70
      have F_h204_71 : h204 71 = .inl (1, 12, .inl pA) := by rw [e_h204, va_up_neq (by omega)]; exact F_h150_71
      have F_h204_73 : h204 73 = .inl (1, 12, .inl fA) := by rw [e_h204, va_up_neq (by omega)]; exact F_h150_73
      have F_h204_75 : h204 75 = .inl (1, 64, .inl oA) := by rw [e_h204, va_up_neq (by omega)]; exact F_h150_75
      have F_h204_76 : h204 76 = .inl (1, 64, .inl sA) := by rw [e_h204, va_up_neq (by omega)]; exact F_h150_76
      have P_h204_in : RowIs h204 1 8000 (some l) 0 0 := (P_h150_in).zfr (Fr.of e_h204) (by omega) (by omega)
      have FR_h204 : Fr h h204 (fun j => j = 68) := (FR_h150).zup e_h204 (by first | exact rfl | exact Or.inl rfl | exact Or.inr rfl | exact ⟨by decide, by decide⟩ | decide | omega)
      clear F_h150_67 F_h150_68 F_h150_70 F_h150_71 F_h150_73 F_h150_75 F_h150_76 P_h150_in FR_h150 e_h204
      refine WX.s1 rfl rfl ?_
      refine WX.s1 rfl rfl ?_
      refine WX.s1 (S' := [.int ((nI (ws).length) + 2)]) rfl rfl ?_
      rw [show ((nI (ws).length) + 2) = nI ((ws).length + 2) from nI_add (ws).length 2]
      rw [nI_clamp (by omega)] at e_g204
      have hl2 : (ws ++ [osF u o a] ++ [osF u o b]).length = (ws).length + 2 := by rw [List.length_append, hwl]; rfl
      have e0 := rsF_0 (l := l) (t := t) (b := b) (ws := ws) (show c - fl < wdF u o a by omega)
      rw [← hl2]
      refine WX.ret1 rfl (k1 _ e0 (fun i => ?_) (by omega) (by omega) h204 g204 FR_h204 F_h204_68 (fun i hi => ?_))
      · rw [getD_app]; split
        · exact o11 b hb
        · exact hw3 i
      · rw [getD_app, e_g204]
        by_cases z : i = (ws ++ [osF u o a]).length
        · rw [if_pos z, z, hwl, pk_us]
        · rw [if_neg z, pk_un (by omega)]; exact hw2 i (by omega)
