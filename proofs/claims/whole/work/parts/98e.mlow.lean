/-! the reference: lowest, leading, rowCost -/
theorem lg_ex {x : Nat} (h : x ≠ 0) : ∃ g, 2 ^ g ≤ x ∧ x < 2 ^ (g + 1) := ⟨Nat.log2 x, Nat.log2_self_le h, Nat.lt_log2_self⟩
theorem nx_ex {u : Nat → Nat} {N o x st : Nat} (ho5 : o = 0 ∨ 5 ≤ o) (ho : o ≤ 9) (hS : mSum u N = 2 ^ o) (hx : x < N) (hm : massU (u x) ≠ 0) (hst : st < 2 ^ o) : ∃ p W, IsNx u N o x st p W := by
  obtain ⟨g, g1, g2⟩ := lg_ex hm
  have hmm : mSum u (x + 1) ≤ 2 ^ o := by rw [← hS]; exact mSum_mono u (by omega)
  rw [mSum_succ] at hmm
  have hgo : g ≤ o := by apply Classical.byContradiction; intro z; have := Nat.pow_le_pow_right (show 0 < 2 by decide) (show o + 1 ≤ g by omega); rw [Nat.pow_succ] at this; omega
  have hok := stW_ok (T := st + 2 ^ o) g1 g2 hgo (by omega) (by omega) (by rw [Nat.pow_succ]; omega)
  obtain ⟨k1, k2, y, k3, k4, k5, k6⟩ := hok
  obtain ⟨p, p1, p2, p3⟩ := plc (r := (st + 2 ^ o) / 2 ^ (stW o (massU (u x)) g (st + 2 ^ o)) - massU (u x)) ho5 ho hS hx (by omega)
  exact ⟨p, _, p1, p2, y, by rw [p3]; omega, by rw [p3]; omega, k6, k5, by rw [p3]; omega⟩
theorem nx_of {u : Nat → Nat} {N o x st k g : Nat} (hk : k < 2 ^ o) (how : ownF u N o k = x) (g1 : 2 ^ g ≤ massU (u x) + rkF u N o x k) (g2 : massU (u x) + rkF u N o x k < 2 ^ (g + 1)) (hgo : g ≤ o) (h1 : (massU (u x) + rkF u N o x k) * 2 ^ (o - g) - 2 ^ o ≤ st) (h2 : st < (massU (u x) + rkF u N o x k) * 2 ^ (o - g) - 2 ^ o + 2 ^ (o - g)) : IsNx u N o x st k (o - g) := by
  refine ⟨hk, how, g, g1, g2, hgo, rfl, ?_⟩
  have hxo : 2 ^ o ≤ (massU (u x) + rkF u N o x k) * 2 ^ (o - g) := by
    have := Nat.mul_le_mul_right (2 ^ (o - g)) g1
    rw [← Nat.pow_add, show g + (o - g) = o by omega] at this
    exact this
  have hp : 0 < 2 ^ (o - g) := Nat.pow_pos (by decide)
  refine Nat.div_eq_of_lt_le (by omega) ?_
  rw [Nat.add_mul, Nat.one_mul]
  omega
theorem nx_bd {u : Nat → Nat} {N o x st k W : Nat} (h : IsNx u N o x st k W) : (massU (u x) + rkF u N o x k) * 2 ^ W ≤ st + 2 ^ o ∧ st + 2 ^ o < (massU (u x) + rkF u N o x k) * 2 ^ W + 2 ^ W ∧ (massU (u x) + rkF u N o x k) * 2 ^ W - 2 ^ o = st - st % 2 ^ W ∧ 2 ^ o ≤ (massU (u x) + rkF u N o x k) * 2 ^ W := by
  obtain ⟨h1, h2, g, h3, h4, h5, h6, h7⟩ := h
  have hp : 0 < 2 ^ W := Nat.pow_pos (by decide)
  rw [← h7]
  have e := Nat.div_add_mod (st + 2 ^ o) (2 ^ W)
  have l := Nat.mod_lt (st + 2 ^ o) hp
  rw [Nat.mul_comm] at e
  have hxo : 2 ^ o ≤ (massU (u x) + rkF u N o x k) * 2 ^ W := by
    rw [h6]
    have := Nat.mul_le_mul_right (2 ^ (o - g)) h3
    rw [← Nat.pow_add, show g + (o - g) = o by omega] at this
    exact this
  rw [← h7] at hxo
  have ed : (st + 2 ^ o) % 2 ^ W = st % 2 ^ W := by
    rw [show 2 ^ o = 2 ^ W * 2 ^ (o - W) by rw [← Nat.pow_add]; congr 1; omega]
    exact Nat.add_mul_mod_self_left _ _ _
  rw [ed] at e l
  refine ⟨by omega, by omega, by omega, hxo⟩
theorem qI_0 {z : Nat} (h : z < 2 ^ 31) : qI z = 0 ↔ z = 1 := by
  rw [← Int32.toInt_inj, qI_toInt h]
  show (z : Int) - 1 = 0 ↔ _
  omega
def SyM (A : Nat → Nat → Int32) (t : Nat) (ss : List Nat) : Prop := ∀ i, i < ss.length → A 21 (8001 * t + i) = nI (ss.getD i 0) ∧ ss.getD i 0 < 64
set_option maxRecDepth 20000 in
theorem m_lowest {d n s : Nat} {h : Nat → aE} {m : Nat} {I : Nat → Int32} {AR : Nat → Nat → Int32} {LN : Nat → Int64} {u : Nat → Nat} {o T x : Nat} {mu : Int32} (hm : m + 43 < n) (M_h : MAt h m I AR LN) (ho5 : o = 0 ∨ 5 ≤ o) (ho : o ≤ 9) (hT : T + 2 ^ o ≤ 2048) (hS : mSum u 64 = 2 ^ o) (hP : PlA AR T o 64 u) (hx : x < 64) (hm0 : massU (u x) ≠ 0) (hmu : mu = 0 ∨ massU (u x) < 2 ^ o)  {Ψ : Option Value → aH → Prop} (kk : ∀ p, IsLow u 64 o x p → Ψ (some (.int (nI p))) (n, s, h)) : WO (mM (d + 1)) 166 [.ref m, .int (nI T), .int (nI o), .int (nI x), .int mu] (n, s, h) Ψ := by
  refine WO.of (Nat.le_of_ble_eq_true rfl) ?_
  have FR_h : Fr h h (inM m) := Fr.rf
  have FI_I : Fi I I (fun f => f = 40) := Fi.rf
  have h2o : 2 ^ o ≤ 2 ^ 9 := Nat.pow_le_pow_right (by decide) ho
  have h2p : 0 < 2 ^ o := Nat.pow_pos (by decide)
  obtain ⟨p, p1, p2, p3⟩ := plc ho5 ho hS hx (show 0 < massU (u x) by omega)
  show WX (lk tX12_lowest) (mM d) Ψ 0 [(0, .ref m), (1, .int (nI T)), (2, .int (nI o)), (3, .int (nI x)), (4, .int mu)] [] (n, s, h)
  refine WX.s1 rfl rfl ?_
  refine WX.s1 (L' := [(0, .ref m), (1, .int (nI T)), (2, .int (nI o)), (3, .int (nI x)), (4, .int mu), (5, .int 0)]) rfl rfl ?_
  have lp : ∀ (t k : Nat), k + t = p → WX (lk tX12_lowest) (mM d) Ψ 3 [(0, .ref m), (1, .int (nI T)), (2, .int (nI o)), (3, .int (nI x)), (4, .int mu), (5, .int (nI k))] [] (n, s, h) := by
    intro t
    induction t with
    | zero =>
      intro k hk
      obtain rfl : k = p := by omega
      have hpk := hP k p1
      rw [p2, p3] at hpk
      obtain ⟨h26, g, g1, g2, h27, -⟩ := hpk
      refine WX.s1 rfl rfl ?_
      refine WX.mget rfl hm M_h rfl ?_
      refine WX.s1 rfl rfl ?_
      refine WX.s1 rfl rfl ?_
      refine WX.s1 (S' := [.int ((nI T) + (nI k)), .ref (m + 26)]) rfl rfl ?_
      rw [show ((nI T) + (nI k)) = nI (T + k) from nI_add T k]
      refine WX.mald (c := 26) rfl hm M_h (by decide) (by decide) (by decide) (by decide) (vp_in_nI (N := 2048) (by omega) (by decide)) ?_
      rw [nI_clamp (by omega), h26]
      refine WX.s1 rfl rfl ?_
      refine WX.icmp rfl (fun c_13 => absurd c_13 (fun zz_ => zz_ ((nI_eq (a := x) (b := x) (by omega) (by omega)).mpr (by omega)))) (fun c_13 => ?_)
      clear c_13
      refine WX.s1 rfl rfl ?_
      refine WX.if_ rfl (fun c_18 => ?_) (fun c_18 => ?_)
      · skip
        refine WX.s1 rfl rfl ?_
        exact WX.ret1 rfl (kk k ⟨p1, p2, p3⟩)
      · skip
        refine WX.s1 rfl rfl ?_
        refine WX.mget rfl hm M_h rfl ?_
        refine WX.s1 rfl rfl ?_
        refine WX.s1 rfl rfl ?_
        refine WX.s1 (S' := [.int ((nI T) + (nI k)), .ref (m + 27)]) rfl rfl ?_
        rw [show ((nI T) + (nI k)) = nI (T + k) from nI_add T k]
        refine WX.mald (c := 27) rfl hm M_h (by decide) (by decide) (by decide) (by decide) (vp_in_nI (N := 2048) (by omega) (by decide)) ?_
        rw [nI_clamp (by omega), h27]
        have hml : massU (u x) < 2 ^ o := by rcases hmu with z | z; exact absurd z c_18; exact z
        have hgo : g < o := by apply Classical.byContradiction; intro z; have := Nat.pow_le_pow_right (show 0 < 2 by decide) (show o ≤ g by omega); omega
        refine WX.if_ rfl (fun c_30 => ?_) (fun c_30 => absurd (fun z => absurd ((nI_eq (a := o - g) (b := 0) (by omega) (by omega)).mp z) (by omega)) c_30)
        refine WX.s1 rfl rfl ?_
        exact WX.ret1 rfl (kk k ⟨p1, p2, p3⟩)
    | succ t ih =>
      intro k hk
      have hpk := hP k (by omega)
      have hne : ¬ ownF u 64 o k = x := fun z => by
        have q : rkF u 64 o x (k + 1) ≤ rkF u 64 o x p := sumN_mono _ (by omega)
        rw [rk_succ, show isE (ownF u 64 o k) x = 1 from if_pos z] at q
        omega
      have hol := own_lt (u := u) (N := 64) ho5 ho hS (show k < 2 ^ o by omega)
      refine WX.s1 rfl rfl ?_
      refine WX.mget rfl hm M_h rfl ?_
      refine WX.s1 rfl rfl ?_
      refine WX.s1 rfl rfl ?_
      refine WX.s1 (S' := [.int ((nI T) + (nI k)), .ref (m + 26)]) rfl rfl ?_
      rw [show ((nI T) + (nI k)) = nI (T + k) from nI_add T k]
      refine WX.mald (c := 26) rfl hm M_h (by decide) (by decide) (by decide) (by decide) (vp_in_nI (N := 2048) (by omega) (by decide)) ?_
      rw [nI_clamp (by omega), hpk.1]
      refine WX.s1 rfl rfl ?_
      refine WX.icmp rfl (fun c_13 => ?_) (fun c_13 => absurd (fun z => hne ((nI_eq (by omega) (by omega)).mp z)) c_13)
      refine WX.s1 (L' := [(0, .ref m), (1, .int (nI T)), (2, .int (nI o)), (3, .int (nI x)), (4, .int mu), (5, .int ((nI k) + 1))]) rfl rfl ?_
      rw [show ((nI k) + 1) = nI (k + 1) from nI_add k 1]
      refine WX.s1 rfl rfl ?_
      exact ih (k + 1) (by omega)
  exact lp p 0 (by omega)
set_option maxRecDepth 20000 in
theorem m_leading {d n s : Nat} {h : Nat → aE} {m : Nat} {I : Nat → Int32} {AR : Nat → Nat → Int32} {LN : Nat → Int64} {u : Nat → Nat} {o T x st : Nat} (hm : m + 43 < n) (M_h : MAt h m I AR LN) (ho5 : o = 0 ∨ 5 ≤ o) (ho : o ≤ 9) (hT : T + 2 ^ o ≤ 2048) (hS : mSum u 64 = 2 ^ o) (hP : PlA AR T o 64 u) (hx : x < 64) (hm0 : massU (u x) ≠ 0) (hst : st < 2 ^ o)  {Ψ : Option Value → aH → Prop} (kk : ∀ p V, IsNx u 64 o x st p V → AR 27 (T + p) = nI V → AR 28 (T + p) = nI (st - st % 2 ^ V) → Ψ (some (.int (nI p))) (n, s, h)) : WO (mM (d + 1)) 167 [.ref m, .int (nI T), .int (nI o), .int (nI x), .int (nI st)] (n, s, h) Ψ := by
  refine WO.of (Nat.le_of_ble_eq_true rfl) ?_
  have FR_h : Fr h h (inM m) := Fr.rf
  have FI_I : Fi I I (fun f => f = 40) := Fi.rf
  have h2o : 2 ^ o ≤ 2 ^ 9 := Nat.pow_le_pow_right (by decide) ho
  have h2p : 0 < 2 ^ o := Nat.pow_pos (by decide)
  obtain ⟨p, V, hN⟩ := nx_ex ho5 ho hS hx hm0 hst
  obtain ⟨p1, hV⟩ := nx_lt hN
  show WX (lk tX12_leading) (mM d) Ψ 0 [(0, .ref m), (1, .int (nI T)), (2, .int (nI o)), (3, .int (nI x)), (4, .int (nI st))] [] (n, s, h)
  refine WX.s1 rfl rfl ?_
  refine WX.s1 (L' := [(0, .ref m), (1, .int (nI T)), (2, .int (nI o)), (3, .int (nI x)), (4, .int (nI st)), (5, .int 0)]) rfl rfl ?_
  have lp : ∀ (t k : Nat), k + t = p → WX (lk tX12_leading) (mM d) Ψ 3 [(0, .ref m), (1, .int (nI T)), (2, .int (nI o)), (3, .int (nI x)), (4, .int (nI st)), (5, .int (nI k))] [] (n, s, h) := by
    intro t
    induction t with
    | zero =>
      intro k hk
      have hkl : k < 2 ^ o := by omega
      obtain ⟨h26, g, g1, g2, h27, h28⟩ := hP k hkl
      have hrk := rk_own (u := u) (N := 64) ho5 ho hS hkl
      have hol := own_lt (u := u) (N := 64) ho5 ho hS hkl
      have hmm : massU (u (ownF u 64 o k)) ≤ 2 ^ o := by have h1 := sumN_get (fun s => massU (u s)) hol; have h2 : sumN (fun s => massU (u s)) 64 = 2 ^ o := hS; rw [← h2]; exact h1
      have hgo : g ≤ o := by apply Classical.byContradiction; intro z; have := Nat.pow_le_pow_right (show 0 < 2 by decide) (show o + 1 ≤ g by omega); rw [Nat.pow_succ] at this; omega
      have hgb : 2 ^ (o - g) ≤ 2 ^ 9 := Nat.pow_le_pow_right (by decide) (by omega)
      have hxb : (massU (u (ownF u 64 o k)) + rkF u 64 o (ownF u 64 o k) k) * 2 ^ (o - g) ≤ 2 ^ 10 * 2 ^ 9 := Nat.mul_le_mul (by omega) hgb
      obtain rfl : k = p := by omega
      have hb := nx_bd hN
      obtain ⟨-, q2, g5, q3, q4, q5, q6, q7⟩ := hN
      rw [q2] at h26 g1 g2 h28 hrk hol hmm hxb
      obtain rfl : g5 = g := log_un q3 q4 g1 g2
      rw [q6] at hb
      refine WX.s1 rfl rfl ?_
      refine WX.s1 rfl rfl ?_
      refine WX.s1 rfl rfl ?_
      refine WX.s1 (S' := [.int (1 <<< ((nI o) &&& 31)), .int (nI k)]) rfl rfl ?_
      rw [sh1 o (by omega)]
      refine WX.icmp rfl (fun c_8 => absurd c_8 (fun zz_ => absurd ((nI_leI (a := 2 ^ o) (b := k) (by omega) (by omega)).mp zz_) (Nat.not_le.mpr (by omega)))) (fun c_8 => ?_)
      clear c_8
      refine WX.s1 rfl rfl ?_
      refine WX.mget rfl hm M_h rfl ?_
      refine WX.s1 rfl rfl ?_
      refine WX.s1 rfl rfl ?_
      refine WX.s1 (S' := [.int ((nI T) + (nI k)), .ref (m + 28)]) rfl rfl ?_
      rw [show ((nI T) + (nI k)) = nI (T + k) from nI_add T k]
      refine WX.mald (c := 28) rfl hm M_h (by decide) (by decide) (by decide) (by decide) (vp_in_nI (N := 2048) (by omega) (by decide)) ?_
      rw [nI_clamp (by omega), h28]
      refine WX.s1 (L' := [(0, .ref m), (1, .int (nI T)), (2, .int (nI o)), (3, .int (nI x)), (4, .int (nI st)), (5, .int (nI k)), (6, .int (nI ((massU (u x) + rkF u 64 o x k) * 2 ^ (o - g5) - 2 ^ o)))]) rfl rfl ?_
      refine WX.s1 rfl rfl ?_
      refine WX.mget rfl hm M_h rfl ?_
      refine WX.s1 rfl rfl ?_
      refine WX.s1 rfl rfl ?_
      refine WX.s1 (S' := [.int ((nI T) + (nI k)), .ref (m + 26)]) rfl rfl ?_
      rw [show ((nI T) + (nI k)) = nI (T + k) from nI_add T k]
      refine WX.mald (c := 26) rfl hm M_h (by decide) (by decide) (by decide) (by decide) (vp_in_nI (N := 2048) (by omega) (by decide)) ?_
      rw [nI_clamp (by omega), h26]
      refine WX.s1 rfl rfl ?_
      refine WX.icmp rfl (fun c_32 => absurd c_32 (fun zz_ => zz_ ((nI_eq (a := x) (b := x) (by omega) (by omega)).mpr (by omega)))) (fun c_32 => ?_)
      clear c_32
      refine WX.s1 rfl rfl ?_
      refine WX.s1 rfl rfl ?_
      refine WX.icmp rfl (fun c_39 => absurd c_39 (fun zz_ => absurd ((nI_ltI (a := st) (b := (massU (u x) + rkF u 64 o x k) * 2 ^ (o - g5) - 2 ^ o) (by omega) (by omega)).mp zz_) (Nat.not_lt.mpr (by omega)))) (fun c_39 => ?_)
      clear c_39
      refine WX.s1 rfl rfl ?_
      refine WX.s1 rfl rfl ?_
      refine WX.s1 rfl rfl ?_
      refine WX.s1 rfl rfl ?_
      refine WX.mget rfl hm M_h rfl ?_
      refine WX.s1 rfl rfl ?_
      refine WX.s1 rfl rfl ?_
      refine WX.s1 (S' := [.int ((nI T) + (nI k)), .ref (m + 27), .int 1, .int (nI ((massU (u x) + rkF u 64 o x k) * 2 ^ (o - g5) - 2 ^ o)), .int (nI st)]) rfl rfl ?_
      rw [show ((nI T) + (nI k)) = nI (T + k) from nI_add T k]
      refine WX.mald (c := 27) rfl hm M_h (by decide) (by decide) (by decide) (by decide) (vp_in_nI (N := 2048) (by omega) (by decide)) ?_
      rw [nI_clamp (by omega), h27]
      refine WX.s1 (S' := [.int (1 <<< ((nI (o - g5)) &&& 31)), .int (nI ((massU (u x) + rkF u 64 o x k) * 2 ^ (o - g5) - 2 ^ o)), .int (nI st)]) rfl rfl ?_
      rw [sh1 (o - g5) (by omega)]
      refine WX.s1 (S' := [.int ((nI ((massU (u x) + rkF u 64 o x k) * 2 ^ (o - g5) - 2 ^ o)) + (nI (2 ^ (o - g5)))), .int (nI st)]) rfl rfl ?_
      rw [show ((nI ((massU (u x) + rkF u 64 o x k) * 2 ^ (o - g5) - 2 ^ o)) + (nI (2 ^ (o - g5)))) = nI ((massU (u x) + rkF u 64 o x k) * 2 ^ (o - g5) - 2 ^ o + (2 ^ (o - g5))) from nI_add ((massU (u x) + rkF u 64 o x k) * 2 ^ (o - g5) - 2 ^ o) (2 ^ (o - g5))]
      refine WX.icmp rfl (fun c_58 => absurd c_58 (fun zz_ => absurd ((nI_leI (a := (massU (u x) + rkF u 64 o x k) * 2 ^ (o - g5) - 2 ^ o + (2 ^ (o - g5))) (b := st) (by omega) (by omega)).mp zz_) (Nat.not_le.mpr (by omega)))) (fun c_58 => ?_)
      clear c_58
      refine WX.s1 rfl rfl ?_
      exact WX.ret1 rfl (kk k V ⟨p1, q2, g5, q3, q4, q5, q6, q7⟩ (by rw [h27, q6]) (by rw [h28, hb.2.2.1, q6]))
    | succ t ih =>
      intro k hk
      have hkl : k < 2 ^ o := by omega
      obtain ⟨h26, g, g1, g2, h27, h28⟩ := hP k hkl
      have hrk := rk_own (u := u) (N := 64) ho5 ho hS hkl
      have hol := own_lt (u := u) (N := 64) ho5 ho hS hkl
      have hmm : massU (u (ownF u 64 o k)) ≤ 2 ^ o := by have h1 := sumN_get (fun s => massU (u s)) hol; have h2 : sumN (fun s => massU (u s)) 64 = 2 ^ o := hS; rw [← h2]; exact h1
      have hgo : g ≤ o := by apply Classical.byContradiction; intro z; have := Nat.pow_le_pow_right (show 0 < 2 by decide) (show o + 1 ≤ g by omega); rw [Nat.pow_succ] at this; omega
      have hgb : 2 ^ (o - g) ≤ 2 ^ 9 := Nat.pow_le_pow_right (by decide) (by omega)
      have hxb : (massU (u (ownF u 64 o k)) + rkF u 64 o (ownF u 64 o k) k) * 2 ^ (o - g) ≤ 2 ^ 10 * 2 ^ 9 := Nat.mul_le_mul (by omega) hgb
      refine WX.s1 rfl rfl ?_
      refine WX.s1 rfl rfl ?_
      refine WX.s1 rfl rfl ?_
      refine WX.s1 (S' := [.int (1 <<< ((nI o) &&& 31)), .int (nI k)]) rfl rfl ?_
      rw [sh1 o (by omega)]
      refine WX.icmp rfl (fun c_8 => absurd c_8 (fun zz_ => absurd ((nI_leI (a := 2 ^ o) (b := k) (by omega) (by omega)).mp zz_) (Nat.not_le.mpr (by omega)))) (fun c_8 => ?_)
      clear c_8
      refine WX.s1 rfl rfl ?_
      refine WX.mget rfl hm M_h rfl ?_
      refine WX.s1 rfl rfl ?_
      refine WX.s1 rfl rfl ?_
      refine WX.s1 (S' := [.int ((nI T) + (nI k)), .ref (m + 28)]) rfl rfl ?_
      rw [show ((nI T) + (nI k)) = nI (T + k) from nI_add T k]
      refine WX.mald (c := 28) rfl hm M_h (by decide) (by decide) (by decide) (by decide) (vp_in_nI (N := 2048) (by omega) (by decide)) ?_
      rw [nI_clamp (by omega), h28]
      refine WX.s1 (L' := [(0, .ref m), (1, .int (nI T)), (2, .int (nI o)), (3, .int (nI x)), (4, .int (nI st)), (5, .int (nI k)), (6, .int (nI ((massU (u (ownF u 64 o k)) + rkF u 64 o (ownF u 64 o k) k) * 2 ^ (o - g) - 2 ^ o)))]) rfl rfl ?_
      refine WX.s1 rfl rfl ?_
      refine WX.mget rfl hm M_h rfl ?_
      refine WX.s1 rfl rfl ?_
      refine WX.s1 rfl rfl ?_
      refine WX.s1 (S' := [.int ((nI T) + (nI k)), .ref (m + 26)]) rfl rfl ?_
      rw [show ((nI T) + (nI k)) = nI (T + k) from nI_add T k]
      refine WX.mald (c := 26) rfl hm M_h (by decide) (by decide) (by decide) (by decide) (vp_in_nI (N := 2048) (by omega) (by decide)) ?_
      rw [nI_clamp (by omega), h26]
      refine WX.s1 rfl rfl ?_
      refine WX.icmp rfl (fun c_32 => ?_) (fun c_32 => ?_)
      · skip
        have n_32 : ¬ (ownF u 64 o k) = x := fun zz_ => c_32 ((nI_eq (a := ownF u 64 o k) (b := x) (by omega) (by omega)).mpr zz_)
        refine WX.s1 (L' := [(0, .ref m), (1, .int (nI T)), (2, .int (nI o)), (3, .int (nI x)), (4, .int (nI st)), (5, .int ((nI k) + 1)), (6, .int (nI ((massU (u (ownF u 64 o k)) + rkF u 64 o (ownF u 64 o k) k) * 2 ^ (o - g) - 2 ^ o)))]) rfl rfl ?_
        rw [show ((nI k) + 1) = nI (k + 1) from nI_add k 1]
        refine WX.s1 rfl rfl ?_
        refine WX.keep (y := 167) [0, 1, 2, 3, 4, 5] (show ([0, 1, 2, 3, 4, 5, 6] : List Nat).Nodup by decide) rfl ?_
        exact ih (k + 1) (by omega)
      · skip
        have n_32 : (ownF u 64 o k) = x := (nI_eq (a := ownF u 64 o k) (b := x) (by omega) (by omega)).mp (Classical.not_not.mp c_32)
        refine WX.s1 rfl rfl ?_
        refine WX.s1 rfl rfl ?_
        refine WX.icmp rfl (fun c_39 => ?_) (fun c_39 => ?_)
        · skip
          have n_39 : st < ((massU (u (ownF u 64 o k)) + rkF u 64 o (ownF u 64 o k) k) * 2 ^ (o - g) - 2 ^ o) := (nI_ltI (a := st) (b := (massU (u (ownF u 64 o k)) + rkF u 64 o (ownF u 64 o k) k) * 2 ^ (o - g) - 2 ^ o) (by omega) (by omega)).mp c_39
          refine WX.s1 (L' := [(0, .ref m), (1, .int (nI T)), (2, .int (nI o)), (3, .int (nI x)), (4, .int (nI st)), (5, .int ((nI k) + 1)), (6, .int (nI ((massU (u (ownF u 64 o k)) + rkF u 64 o (ownF u 64 o k) k) * 2 ^ (o - g) - 2 ^ o)))]) rfl rfl ?_
          rw [show ((nI k) + 1) = nI (k + 1) from nI_add k 1]
          refine WX.s1 rfl rfl ?_
          refine WX.keep (y := 167) [0, 1, 2, 3, 4, 5] (show ([0, 1, 2, 3, 4, 5, 6] : List Nat).Nodup by decide) rfl ?_
          exact ih (k + 1) (by omega)
        · skip
          have n_39 : ((massU (u (ownF u 64 o k)) + rkF u 64 o (ownF u 64 o k) k) * 2 ^ (o - g) - 2 ^ o) ≤ st := Nat.le_of_not_lt (fun zz_ => c_39 ((nI_ltI (a := st) (b := (massU (u (ownF u 64 o k)) + rkF u 64 o (ownF u 64 o k) k) * 2 ^ (o - g) - 2 ^ o) (by omega) (by omega)).mpr zz_))
          refine WX.s1 rfl rfl ?_
          refine WX.s1 rfl rfl ?_
          refine WX.s1 rfl rfl ?_
          refine WX.s1 rfl rfl ?_
          refine WX.mget rfl hm M_h rfl ?_
          refine WX.s1 rfl rfl ?_
          refine WX.s1 rfl rfl ?_
          refine WX.s1 (S' := [.int ((nI T) + (nI k)), .ref (m + 27), .int 1, .int (nI ((massU (u (ownF u 64 o k)) + rkF u 64 o (ownF u 64 o k) k) * 2 ^ (o - g) - 2 ^ o)), .int (nI st)]) rfl rfl ?_
          rw [show ((nI T) + (nI k)) = nI (T + k) from nI_add T k]
          refine WX.mald (c := 27) rfl hm M_h (by decide) (by decide) (by decide) (by decide) (vp_in_nI (N := 2048) (by omega) (by decide)) ?_
          rw [nI_clamp (by omega), h27]
          refine WX.s1 (S' := [.int (1 <<< ((nI (o - g)) &&& 31)), .int (nI ((massU (u (ownF u 64 o k)) + rkF u 64 o (ownF u 64 o k) k) * 2 ^ (o - g) - 2 ^ o)), .int (nI st)]) rfl rfl ?_
          rw [sh1 (o - g) (by omega)]
          refine WX.s1 (S' := [.int ((nI ((massU (u (ownF u 64 o k)) + rkF u 64 o (ownF u 64 o k) k) * 2 ^ (o - g) - 2 ^ o)) + (nI (2 ^ (o - g)))), .int (nI st)]) rfl rfl ?_
          rw [show ((nI ((massU (u (ownF u 64 o k)) + rkF u 64 o (ownF u 64 o k) k) * 2 ^ (o - g) - 2 ^ o)) + (nI (2 ^ (o - g)))) = nI ((massU (u (ownF u 64 o k)) + rkF u 64 o (ownF u 64 o k) k) * 2 ^ (o - g) - 2 ^ o + (2 ^ (o - g))) from nI_add ((massU (u (ownF u 64 o k)) + rkF u 64 o (ownF u 64 o k) k) * 2 ^ (o - g) - 2 ^ o) (2 ^ (o - g))]
          refine WX.icmp rfl (fun c_58 => ?_) (fun c_58 => ?_)
          · skip
            have n_58 : ((massU (u (ownF u 64 o k)) + rkF u 64 o (ownF u 64 o k) k) * 2 ^ (o - g) - 2 ^ o + (2 ^ (o - g))) ≤ st := (nI_leI (a := (massU (u (ownF u 64 o k)) + rkF u 64 o (ownF u 64 o k) k) * 2 ^ (o - g) - 2 ^ o + (2 ^ (o - g))) (b := st) (by omega) (by omega)).mp c_58
            refine WX.s1 (L' := [(0, .ref m), (1, .int (nI T)), (2, .int (nI o)), (3, .int (nI x)), (4, .int (nI st)), (5, .int ((nI k) + 1)), (6, .int (nI ((massU (u (ownF u 64 o k)) + rkF u 64 o (ownF u 64 o k) k) * 2 ^ (o - g) - 2 ^ o)))]) rfl rfl ?_
            rw [show ((nI k) + 1) = nI (k + 1) from nI_add k 1]
            refine WX.s1 rfl rfl ?_
            refine WX.keep (y := 167) [0, 1, 2, 3, 4, 5] (show ([0, 1, 2, 3, 4, 5, 6] : List Nat).Nodup by decide) rfl ?_
            exact ih (k + 1) (by omega)
          · skip
            have n_58 : st < ((massU (u (ownF u 64 o k)) + rkF u 64 o (ownF u 64 o k) k) * 2 ^ (o - g) - 2 ^ o + (2 ^ (o - g))) := Nat.lt_of_not_le (fun zz_ => c_58 ((nI_leI (a := (massU (u (ownF u 64 o k)) + rkF u 64 o (ownF u 64 o k) k) * 2 ^ (o - g) - 2 ^ o + (2 ^ (o - g))) (b := st) (by omega) (by omega)).mpr zz_))
            refine WX.s1 rfl rfl ?_
            exfalso
            rw [n_32] at g1 g2 n_39 n_58
            have z := nx_of hkl n_32 g1 g2 hgo n_39 n_58
            have y := (nx_uniq ho5 ho hS z hN).1
            omega
  exact lp p 0 (by omega)
set_option maxRecDepth 20000 in
theorem m_rowCost30 {d n s : Nat} {h : Nat → aE} {m : Nat} {I : Nat → Int32} {AR : Nat → Nat → Int32} {LN : Nat → Int64} {u : Nat → Nat} {f o tb : Nat} {ss : List Nat} (hm : m + 43 < n) (M_h : MAt h m I AR LN) (htb : tb < 3) (hf : f + 64 ≤ 64) (ho5 : o = 0 ∨ 5 ≤ o) (ho : o ≤ 9) (hU : ∀ s, s < 64 → AR 30 (f + s) = qI (u s)) (hS : mSum u 64 = 2 ^ o) (hle : ss.length ≤ 2667) (h0 : 1 ≤ ss.length) (hss : SyM AR tb ss) (K_I_31 : I 31 = (nI ss.length)) {Ψ : Option Value → aH → Prop} (kk1 : (∀ i, i < ss.length → massU (u (ss.getD i 0)) ≠ 0) → ∀ h' A' c p, Fr h h' (inM m) → MAt h' m I A' LN → FaS AR A' (fun b => b = 26 ∨ b = 27 ∨ b = 28 ∨ b = 29) → PlA A' (512 * tb) o 64 u → RowC u 64 o ss c p → c ≤ 9 * ss.length → Ψ (some (.int (nI c))) (n, s, h')) (kk2 : (∃ i, i < ss.length ∧ massU (u (ss.getD i 0)) = 0) → Ψ (some (.int (-1))) (n, s, h)) : WO (mM (d + 3)) 168 [.ref m, .int (nI tb), .ref (m + 30), .int (nI f), .int (nI o)] (n, s, h) Ψ := by
  refine WO.of (Nat.le_of_ble_eq_true rfl) ?_
  have FR_h : Fr h h (inM m) := Fr.rf
  have FI_I : Fi I I (fun f => f = 40) := Fi.rf
  have h2o : 2 ^ o ≤ 2 ^ 9 := Nat.pow_le_pow_right (by decide) ho
  have h2p : 0 < 2 ^ o := Nat.pow_pos (by decide)
  have hub : ∀ s, s < 64 → u s ≤ 2 ^ o + 1 := fun s hs => by
    have h1 := sumN_get (fun s => massU (u s)) hs
    have h2 : sumN (fun s => massU (u s)) 64 = 2 ^ o := hS
    have h3 : massU (u s) ≤ 2 ^ o := by rw [← h2]; exact h1
    unfold massU at h3
    by_cases z : u s = 0
    · omega
    · rw [if_neg z] at h3; omega
  show WX (lk tX12_rowCost) (mM (d + 2)) Ψ 0 [(0, .ref m), (1, .int (nI tb)), (2, .ref (m + 30)), (3, .int (nI f)), (4, .int (nI o))] [] (n, s, h)
  refine WX.s1 rfl rfl ?_
  refine WX.s1 (L' := [(0, .ref m), (1, .int (nI tb)), (2, .ref (m + 30)), (3, .int (nI f)), (4, .int (nI o)), (5, .int 0)]) rfl rfl ?_
  have lp : ∀ (t i : Nat), i + t = ss.length → (∀ q, q < i → massU (u (ss.getD q 0)) ≠ 0) → WX (lk tX12_rowCost) (mM (d + 2)) Ψ 3 [(0, .ref m), (1, .int (nI tb)), (2, .ref (m + 30)), (3, .int (nI f)), (4, .int (nI o)), (5, .int (nI i))] [] (n, s, h) := by
    intro t
    induction t with
    | zero =>
      intro i hi hq
      obtain rfl : i = ss.length := by omega
      refine WX.s1 rfl rfl ?_
      refine WX.s1 rfl rfl ?_
      refine WX.mgetK (x := (nI ss.length)) rfl hm M_h rfl K_I_31 ?_
      refine WX.icmp rfl (fun c_9 => ?_) (fun c_9 => absurd ((nI_leI (a := ss.length) (b := ss.length) (by omega) (by omega)).mpr (by omega)) c_9)
      clear c_9
      refine WX.keep (y := 168) [0, 1, 2, 3, 4] (show ([0, 1, 2, 3, 4, 5] : List Nat).Nodup by decide) rfl ?_
      refine WX.s1 rfl rfl ?_
      refine WX.s1 rfl rfl ?_
      refine WX.s1 rfl rfl ?_
      refine WX.s1 rfl rfl ?_
      refine WX.s1 rfl rfl ?_
      refine WX.s1 rfl rfl ?_
      refine WX.s1 rfl rfl ?_
      refine WX.s1 (S' := [.int (512 * (nI tb)), .int (nI o), .int 64, .int (nI f), .ref (m + 30), .ref m]) rfl rfl ?_
      rw [show (512 * (nI tb)) = nI (512 * tb) from (Int32.ofNat_mul 512 tb).symm]
      refine WX.callC (vs := [.ref m, .ref (m + 30), .int (nI f), .int 64, .int (nI o), .int (nI (512 * tb))]) rfl rfl rfl (Nat.le_of_ble_eq_true rfl) (M_h.rcv hm) ?_
      refine m_lay30 hm M_h hf ho5 ho (by omega) hU hS (fun h1 A1 fr1 M_h1 FA_1 hP _ => ?_)
      have FR_h1 := FR_h.ztr fr1
      have hss1 : SyM A1 tb ss := fun i hi => by rw [FA_1 21 (by decide)]; exact hss i hi
      show WX _ _ _ 55 [(0, .ref m), (1, .int (nI tb)), (2, .ref (m + 30)), (3, .int (nI f)), (4, .int (nI o))] [] (n, s, h1)
      refine WX.s1 rfl rfl ?_
      refine WX.s1 rfl rfl ?_
      refine WX.s1 rfl rfl ?_
      refine WX.s1 (S' := [.int (512 * (nI tb)), .ref m]) rfl rfl ?_
      rw [show (512 * (nI tb)) = nI (512 * tb) from (Int32.ofNat_mul 512 tb).symm]
      refine WX.s1 rfl rfl ?_
      refine WX.s1 rfl rfl ?_
      refine WX.mget rfl hm M_h1 rfl ?_
      refine WX.s1 rfl rfl ?_
      refine WX.s1 rfl rfl ?_
      refine WX.s1 (S' := [.int (8001 * (nI tb)), .ref (m + 21), .int (nI o), .int (nI (512 * tb)), .ref m]) rfl rfl ?_
      rw [show (8001 * (nI tb)) = nI (8001 * tb) from (Int32.ofNat_mul 8001 tb).symm]
      refine WX.s1 rfl rfl ?_
      refine WX.mgetK (x := (nI ss.length)) rfl hm M_h1 rfl K_I_31 ?_
      refine WX.s1 (S' := [.int ((nI (8001 * tb)) + (nI ss.length)), .ref (m + 21), .int (nI o), .int (nI (512 * tb)), .ref m]) rfl rfl ?_
      rw [show ((nI (8001 * tb)) + (nI ss.length)) = nI (8001 * tb + ss.length) from nI_add (8001 * tb) ss.length]
      refine WX.s1 rfl rfl ?_
      refine WX.s1 (S' := [.int ((nI (8001 * tb + ss.length)) - 1), .ref (m + 21), .int (nI o), .int (nI (512 * tb)), .ref m]) rfl rfl ?_
      rw [nI_pm1 (by omega), show 8001 * tb + ss.length - 1 = 8001 * tb + (ss.length - 1) by omega]
      refine WX.mald (c := 21) rfl hm M_h1 (by decide) (by decide) (by decide) (by decide) (vp_in_nI (N := 24003) (by omega) (by decide)) ?_
      rw [nI_clamp (by omega), (hss1 (ss.length - 1) (by omega)).1]
      refine WX.s1 rfl rfl ?_
      refine WX.callC (vs := [.ref m, .int (nI (512 * tb)), .int (nI o), .int (nI (ss.getD (ss.length - 1) 0)), .int 0]) rfl rfl rfl (Nat.le_of_ble_eq_true rfl) (M_h1.rcv hm) ?_
      refine m_lowest hm M_h1 ho5 ho (by omega) hS hP (hss1 _ (by omega)).2 (hq _ (by omega)) (Or.inl rfl) (fun p0 hp0 => ?_)
      show WX _ _ _ 84 [(0, .ref m), (1, .int (nI tb)), (2, .ref (m + 30)), (3, .int (nI f)), (4, .int (nI o))] [.int (nI p0)] (n, s, h1)
      refine WX.s1 (L' := [(0, .ref m), (1, .int (nI tb)), (2, .ref (m + 30)), (3, .int (nI f)), (4, .int (nI o)), (5, .int (nI p0))]) rfl rfl ?_
      refine WX.s1 rfl rfl ?_
      refine WX.s1 (L' := [(0, .ref m), (1, .int (nI tb)), (2, .ref (m + 30)), (3, .int (nI f)), (4, .int (nI o)), (5, .int (nI p0)), (6, .int (nI o))]) rfl rfl ?_
      refine WX.s1 rfl rfl ?_
      refine WX.mgetK (x := (nI ss.length)) rfl hm M_h1 rfl K_I_31 ?_
      refine WX.s1 rfl rfl ?_
      refine WX.s1 (S' := [.int ((nI ss.length) - 2)]) rfl rfl ?_
      rw [nI_m2 h0]
      refine WX.s1 (L' := [(0, .ref m), (1, .int (nI tb)), (2, .ref (m + 30)), (3, .int (nI f)), (4, .int (nI o)), (5, .int (nI p0)), (6, .int (nI o)), (7, .int (qI (ss.length - 1)))]) rfl rfl ?_
      have lp2 : ∀ (z c p : Nat), z < ss.length → c ≤ 9 * (ss.length - z) → p < 2 ^ o → RowC u 64 o (ss.drop z) c p → WX (lk tX12_rowCost) (mM (d + 2)) Ψ 98 [(0, .ref m), (1, .int (nI tb)), (2, .ref (m + 30)), (3, .int (nI f)), (4, .int (nI o)), (5, .int (nI p)), (6, .int (nI c)), (7, .int (qI z))] [] (n, s, h1) := by
        intro z
        induction z with
        | zero =>
          intro c p hz hc hp hR
          rw [qI0]
          refine WX.s1 rfl rfl ?_
          refine WX.if_ rfl (fun c_100 => ?_) (fun c_100 => absurd (by decide) c_100)
          refine WX.s1 rfl rfl ?_
          exact WX.ret1 rfl (kk1 hq h1 A1 c p FR_h1 M_h1 FA_1 hP hR (by omega))
        | succ z ih2 =>
          intro c p hz hc hp hR
          rw [qIs]
          obtain ⟨hy1, hy2⟩ := hss1 z (by omega)
          refine WX.s1 rfl rfl ?_
          refine WX.if_ rfl (fun c_100 => absurd c_100 (fun zz_ => absurd ((nI_ltI (a := z) (b := 0) (by omega) (by omega)).mp zz_) (Nat.not_lt.mpr (by omega)))) (fun c_100 => ?_)
          clear c_100
          refine WX.s1 rfl rfl ?_
          refine WX.s1 rfl rfl ?_
          refine WX.s1 rfl rfl ?_
          refine WX.s1 (S' := [.int (512 * (nI tb)), .ref m]) rfl rfl ?_
          rw [show (512 * (nI tb)) = nI (512 * tb) from (Int32.ofNat_mul 512 tb).symm]
          refine WX.s1 rfl rfl ?_
          refine WX.s1 rfl rfl ?_
          refine WX.mget rfl hm M_h1 rfl ?_
          refine WX.s1 rfl rfl ?_
          refine WX.s1 rfl rfl ?_
          refine WX.s1 (S' := [.int (8001 * (nI tb)), .ref (m + 21), .int (nI o), .int (nI (512 * tb)), .ref m]) rfl rfl ?_
          rw [show (8001 * (nI tb)) = nI (8001 * tb) from (Int32.ofNat_mul 8001 tb).symm]
          refine WX.s1 rfl rfl ?_
          refine WX.s1 (S' := [.int ((nI (8001 * tb)) + (nI z)), .ref (m + 21), .int (nI o), .int (nI (512 * tb)), .ref m]) rfl rfl ?_
          rw [show ((nI (8001 * tb)) + (nI z)) = nI (8001 * tb + z) from nI_add (8001 * tb) z]
          refine WX.mald (c := 21) rfl hm M_h1 (by decide) (by decide) (by decide) (by decide) (vp_in_nI (N := 24003) (by omega) (by decide)) ?_
          rw [nI_clamp (by omega), hy1]
          refine WX.s1 rfl rfl ?_
          refine WX.callC (vs := [.ref m, .int (nI (512 * tb)), .int (nI o), .int (nI (ss.getD z 0)), .int (nI p)]) rfl rfl rfl (Nat.le_of_ble_eq_true rfl) (M_h1.rcv hm) ?_
          refine m_leading hm M_h1 ho5 ho (by omega) hS hP hy2 (hq _ (by omega)) hp (fun p2 V hN h27 h28 => ?_)
          obtain ⟨hp2, hV⟩ := nx_lt hN
          show WX _ _ _ 129 [(0, .ref m), (1, .int (nI tb)), (2, .ref (m + 30)), (3, .int (nI f)), (4, .int (nI o)), (5, .int (nI p)), (6, .int (nI c)), (7, .int (nI z))] [.int (nI p2)] (n, s, h1)
          refine WX.s1 (L' := [(0, .ref m), (1, .int (nI tb)), (2, .ref (m + 30)), (3, .int (nI f)), (4, .int (nI o)), (5, .int (nI p2)), (6, .int (nI c)), (7, .int (nI z))]) rfl rfl ?_
          refine WX.s1 rfl rfl ?_
          refine WX.s1 rfl rfl ?_
          refine WX.mget rfl hm M_h1 rfl ?_
          refine WX.s1 rfl rfl ?_
          refine WX.s1 rfl rfl ?_
          refine WX.s1 (S' := [.int (512 * (nI tb)), .ref (m + 27), .int (nI c)]) rfl rfl ?_
          rw [show (512 * (nI tb)) = nI (512 * tb) from (Int32.ofNat_mul 512 tb).symm]
          refine WX.s1 rfl rfl ?_
          refine WX.s1 (S' := [.int ((nI (512 * tb)) + (nI p2)), .ref (m + 27), .int (nI c)]) rfl rfl ?_
          rw [show ((nI (512 * tb)) + (nI p2)) = nI (512 * tb + p2) from nI_add (512 * tb) p2]
          refine WX.mald (c := 27) rfl hm M_h1 (by decide) (by decide) (by decide) (by decide) (vp_in_nI (N := 2048) (by omega) (by decide)) ?_
          rw [nI_clamp (by omega), h27]
          refine WX.s1 (S' := [.int ((nI c) + (nI V))]) rfl rfl ?_
          rw [show ((nI c) + (nI V)) = nI (c + V) from nI_add c V]
          refine WX.s1 (L' := [(0, .ref m), (1, .int (nI tb)), (2, .ref (m + 30)), (3, .int (nI f)), (4, .int (nI o)), (5, .int (nI p2)), (6, .int (nI (c + V))), (7, .int (nI z))]) rfl rfl ?_
          refine WX.s1 (L' := [(0, .ref m), (1, .int (nI tb)), (2, .ref (m + 30)), (3, .int (nI f)), (4, .int (nI o)), (5, .int (nI p2)), (6, .int (nI (c + V))), (7, .int ((nI z) + (-1)))]) rfl rfl ?_
          rw [show (nI z) + (-1) = qI z from qI_dec z]
          refine WX.s1 rfl rfl ?_
          refine ih2 (c + V) p2 (by omega) (by omega) hp2 ?_
          rw [drop_get (show z < ss.length by omega)]
          exact hR.cons hN
      refine lp2 (ss.length - 1) o p0 (by omega) (by omega) hp0.1 ?_
      rw [drop_last (by omega)]
      exact ⟨hp0, rfl⟩
    | succ t ih =>
      intro i hi hq
      obtain ⟨y1, y2⟩ := hss i (by omega)
      have hui := hub _ y2
      refine WX.s1 rfl rfl ?_
      refine WX.s1 rfl rfl ?_
      refine WX.mgetK (x := (nI ss.length)) rfl hm M_h rfl K_I_31 ?_
      refine WX.icmp rfl (fun c_9 => absurd c_9 (fun zz_ => absurd ((nI_leI (a := ss.length) (b := i) (by omega) (by omega)).mp zz_) (Nat.not_le.mpr (by omega)))) (fun c_9 => ?_)
      clear c_9
      refine WX.s1 rfl rfl ?_
      refine WX.s1 rfl rfl ?_
      refine WX.s1 rfl rfl ?_
      refine WX.mget rfl hm M_h rfl ?_
      refine WX.s1 rfl rfl ?_
      refine WX.s1 rfl rfl ?_
      refine WX.s1 (S' := [.int (8001 * (nI tb)), .ref (m + 21), .int (nI f), .ref (m + 30)]) rfl rfl ?_
      rw [show (8001 * (nI tb)) = nI (8001 * tb) from (Int32.ofNat_mul 8001 tb).symm]
      refine WX.s1 rfl rfl ?_
      refine WX.s1 (S' := [.int ((nI (8001 * tb)) + (nI i)), .ref (m + 21), .int (nI f), .ref (m + 30)]) rfl rfl ?_
      rw [show ((nI (8001 * tb)) + (nI i)) = nI (8001 * tb + i) from nI_add (8001 * tb) i]
      refine WX.mald (c := 21) rfl hm M_h (by decide) (by decide) (by decide) (by decide) (vp_in_nI (N := 24003) (by omega) (by decide)) ?_
      rw [nI_clamp (by omega), y1]
      refine WX.s1 (S' := [.int ((nI f) + (nI (ss.getD i 0))), .ref (m + 30)]) rfl rfl ?_
      rw [show ((nI f) + (nI (ss.getD i 0))) = nI (f + ss.getD i 0) from nI_add f (ss.getD i 0)]
      refine WX.mald (c := 30) rfl hm M_h (by decide) (by decide) (by decide) (by decide) (vp_in_nI (N := 64) (by omega) (by decide)) ?_
      rw [nI_clamp (by omega), hU _ y2]
      refine WX.if_ rfl (fun c_29 => ?_) (fun c_29 => ?_)
      · skip
        refine WX.s1 (L' := [(0, .ref m), (1, .int (nI tb)), (2, .ref (m + 30)), (3, .int (nI f)), (4, .int (nI o)), (5, .int ((nI i) + 1))]) rfl rfl ?_
        rw [show ((nI i) + 1) = nI (i + 1) from nI_add i 1]
        refine WX.s1 rfl rfl ?_
        have hz : massU (u (ss.getD i 0)) ≠ 0 := by
          intro z
          apply c_29
          refine (qI_0 (by omega)).mpr ?_
          unfold massU at z
          by_cases y : u (ss.getD i 0) = 0
          · rw [if_pos y] at z; omega
          · rw [if_neg y] at z; omega
        refine ih (i + 1) (by omega) (fun q hq2 => ?_)
        by_cases z : q = i
        · rw [z]; exact hz
        · exact hq q (by omega)
      · skip
        refine WX.s1 rfl rfl ?_
        have hz : massU (u (ss.getD i 0)) = 0 := by
          have z : u (ss.getD i 0) = 1 := (qI_0 (by omega)).mp (Classical.not_not.mp c_29)
          rw [z]; rfl
        exact WX.ret1 rfl (kk2 ⟨i, by omega, hz⟩)
  exact lp ss.length 0 (by omega) (fun q hq => absurd hq (Nat.not_lt_zero q))
set_option maxRecDepth 20000 in
theorem m_rowCost9 {d n s : Nat} {h : Nat → aE} {m : Nat} {I : Nat → Int32} {AR : Nat → Nat → Int32} {LN : Nat → Int64} {u : Nat → Nat} {f o tb : Nat} {ss : List Nat} (hm : m + 43 < n) (M_h : MAt h m I AR LN) (htb : tb < 3) (hf : f + 64 ≤ 192) (ho5 : o = 0 ∨ 5 ≤ o) (ho : o ≤ 9) (hU : ∀ s, s < 64 → AR 9 (f + s) = qI (u s)) (hS : mSum u 64 = 2 ^ o) (hle : ss.length ≤ 2667) (h0 : 1 ≤ ss.length) (hss : SyM AR tb ss) (K_I_31 : I 31 = (nI ss.length)) {Ψ : Option Value → aH → Prop} (kk1 : (∀ i, i < ss.length → massU (u (ss.getD i 0)) ≠ 0) → ∀ h' A' c p, Fr h h' (inM m) → MAt h' m I A' LN → FaS AR A' (fun b => b = 26 ∨ b = 27 ∨ b = 28 ∨ b = 29) → PlA A' (512 * tb) o 64 u → RowC u 64 o ss c p → c ≤ 9 * ss.length → Ψ (some (.int (nI c))) (n, s, h')) (kk2 : (∃ i, i < ss.length ∧ massU (u (ss.getD i 0)) = 0) → Ψ (some (.int (-1))) (n, s, h)) : WO (mM (d + 3)) 168 [.ref m, .int (nI tb), .ref (m + 9), .int (nI f), .int (nI o)] (n, s, h) Ψ := by
  refine WO.of (Nat.le_of_ble_eq_true rfl) ?_
  have FR_h : Fr h h (inM m) := Fr.rf
  have FI_I : Fi I I (fun f => f = 40) := Fi.rf
  have h2o : 2 ^ o ≤ 2 ^ 9 := Nat.pow_le_pow_right (by decide) ho
  have h2p : 0 < 2 ^ o := Nat.pow_pos (by decide)
  have hub : ∀ s, s < 64 → u s ≤ 2 ^ o + 1 := fun s hs => by
    have h1 := sumN_get (fun s => massU (u s)) hs
    have h2 : sumN (fun s => massU (u s)) 64 = 2 ^ o := hS
    have h3 : massU (u s) ≤ 2 ^ o := by rw [← h2]; exact h1
    unfold massU at h3
    by_cases z : u s = 0
    · omega
    · rw [if_neg z] at h3; omega
  show WX (lk tX12_rowCost) (mM (d + 2)) Ψ 0 [(0, .ref m), (1, .int (nI tb)), (2, .ref (m + 9)), (3, .int (nI f)), (4, .int (nI o))] [] (n, s, h)
  refine WX.s1 rfl rfl ?_
  refine WX.s1 (L' := [(0, .ref m), (1, .int (nI tb)), (2, .ref (m + 9)), (3, .int (nI f)), (4, .int (nI o)), (5, .int 0)]) rfl rfl ?_
  have lp : ∀ (t i : Nat), i + t = ss.length → (∀ q, q < i → massU (u (ss.getD q 0)) ≠ 0) → WX (lk tX12_rowCost) (mM (d + 2)) Ψ 3 [(0, .ref m), (1, .int (nI tb)), (2, .ref (m + 9)), (3, .int (nI f)), (4, .int (nI o)), (5, .int (nI i))] [] (n, s, h) := by
    intro t
    induction t with
    | zero =>
      intro i hi hq
      obtain rfl : i = ss.length := by omega
      refine WX.s1 rfl rfl ?_
      refine WX.s1 rfl rfl ?_
      refine WX.mgetK (x := (nI ss.length)) rfl hm M_h rfl K_I_31 ?_
      refine WX.icmp rfl (fun c_9 => ?_) (fun c_9 => absurd ((nI_leI (a := ss.length) (b := ss.length) (by omega) (by omega)).mpr (by omega)) c_9)
      clear c_9
      refine WX.keep (y := 168) [0, 1, 2, 3, 4] (show ([0, 1, 2, 3, 4, 5] : List Nat).Nodup by decide) rfl ?_
      refine WX.s1 rfl rfl ?_
      refine WX.s1 rfl rfl ?_
      refine WX.s1 rfl rfl ?_
      refine WX.s1 rfl rfl ?_
      refine WX.s1 rfl rfl ?_
      refine WX.s1 rfl rfl ?_
      refine WX.s1 rfl rfl ?_
      refine WX.s1 (S' := [.int (512 * (nI tb)), .int (nI o), .int 64, .int (nI f), .ref (m + 9), .ref m]) rfl rfl ?_
      rw [show (512 * (nI tb)) = nI (512 * tb) from (Int32.ofNat_mul 512 tb).symm]
      refine WX.callC (vs := [.ref m, .ref (m + 9), .int (nI f), .int 64, .int (nI o), .int (nI (512 * tb))]) rfl rfl rfl (Nat.le_of_ble_eq_true rfl) (M_h.rcv hm) ?_
      refine m_lay9 hm M_h hf ho5 ho (by omega) hU hS (fun h1 A1 fr1 M_h1 FA_1 hP _ => ?_)
      have FR_h1 := FR_h.ztr fr1
      have hss1 : SyM A1 tb ss := fun i hi => by rw [FA_1 21 (by decide)]; exact hss i hi
      show WX _ _ _ 55 [(0, .ref m), (1, .int (nI tb)), (2, .ref (m + 9)), (3, .int (nI f)), (4, .int (nI o))] [] (n, s, h1)
      refine WX.s1 rfl rfl ?_
      refine WX.s1 rfl rfl ?_
      refine WX.s1 rfl rfl ?_
      refine WX.s1 (S' := [.int (512 * (nI tb)), .ref m]) rfl rfl ?_
      rw [show (512 * (nI tb)) = nI (512 * tb) from (Int32.ofNat_mul 512 tb).symm]
      refine WX.s1 rfl rfl ?_
      refine WX.s1 rfl rfl ?_
      refine WX.mget rfl hm M_h1 rfl ?_
      refine WX.s1 rfl rfl ?_
      refine WX.s1 rfl rfl ?_
      refine WX.s1 (S' := [.int (8001 * (nI tb)), .ref (m + 21), .int (nI o), .int (nI (512 * tb)), .ref m]) rfl rfl ?_
      rw [show (8001 * (nI tb)) = nI (8001 * tb) from (Int32.ofNat_mul 8001 tb).symm]
      refine WX.s1 rfl rfl ?_
      refine WX.mgetK (x := (nI ss.length)) rfl hm M_h1 rfl K_I_31 ?_
      refine WX.s1 (S' := [.int ((nI (8001 * tb)) + (nI ss.length)), .ref (m + 21), .int (nI o), .int (nI (512 * tb)), .ref m]) rfl rfl ?_
      rw [show ((nI (8001 * tb)) + (nI ss.length)) = nI (8001 * tb + ss.length) from nI_add (8001 * tb) ss.length]
      refine WX.s1 rfl rfl ?_
      refine WX.s1 (S' := [.int ((nI (8001 * tb + ss.length)) - 1), .ref (m + 21), .int (nI o), .int (nI (512 * tb)), .ref m]) rfl rfl ?_
      rw [nI_pm1 (by omega), show 8001 * tb + ss.length - 1 = 8001 * tb + (ss.length - 1) by omega]
      refine WX.mald (c := 21) rfl hm M_h1 (by decide) (by decide) (by decide) (by decide) (vp_in_nI (N := 24003) (by omega) (by decide)) ?_
      rw [nI_clamp (by omega), (hss1 (ss.length - 1) (by omega)).1]
      refine WX.s1 rfl rfl ?_
      refine WX.callC (vs := [.ref m, .int (nI (512 * tb)), .int (nI o), .int (nI (ss.getD (ss.length - 1) 0)), .int 0]) rfl rfl rfl (Nat.le_of_ble_eq_true rfl) (M_h1.rcv hm) ?_
      refine m_lowest hm M_h1 ho5 ho (by omega) hS hP (hss1 _ (by omega)).2 (hq _ (by omega)) (Or.inl rfl) (fun p0 hp0 => ?_)
      show WX _ _ _ 84 [(0, .ref m), (1, .int (nI tb)), (2, .ref (m + 9)), (3, .int (nI f)), (4, .int (nI o))] [.int (nI p0)] (n, s, h1)
      refine WX.s1 (L' := [(0, .ref m), (1, .int (nI tb)), (2, .ref (m + 9)), (3, .int (nI f)), (4, .int (nI o)), (5, .int (nI p0))]) rfl rfl ?_
      refine WX.s1 rfl rfl ?_
      refine WX.s1 (L' := [(0, .ref m), (1, .int (nI tb)), (2, .ref (m + 9)), (3, .int (nI f)), (4, .int (nI o)), (5, .int (nI p0)), (6, .int (nI o))]) rfl rfl ?_
      refine WX.s1 rfl rfl ?_
      refine WX.mgetK (x := (nI ss.length)) rfl hm M_h1 rfl K_I_31 ?_
      refine WX.s1 rfl rfl ?_
      refine WX.s1 (S' := [.int ((nI ss.length) - 2)]) rfl rfl ?_
      rw [nI_m2 h0]
      refine WX.s1 (L' := [(0, .ref m), (1, .int (nI tb)), (2, .ref (m + 9)), (3, .int (nI f)), (4, .int (nI o)), (5, .int (nI p0)), (6, .int (nI o)), (7, .int (qI (ss.length - 1)))]) rfl rfl ?_
      have lp2 : ∀ (z c p : Nat), z < ss.length → c ≤ 9 * (ss.length - z) → p < 2 ^ o → RowC u 64 o (ss.drop z) c p → WX (lk tX12_rowCost) (mM (d + 2)) Ψ 98 [(0, .ref m), (1, .int (nI tb)), (2, .ref (m + 9)), (3, .int (nI f)), (4, .int (nI o)), (5, .int (nI p)), (6, .int (nI c)), (7, .int (qI z))] [] (n, s, h1) := by
        intro z
        induction z with
        | zero =>
          intro c p hz hc hp hR
          rw [qI0]
          refine WX.s1 rfl rfl ?_
          refine WX.if_ rfl (fun c_100 => ?_) (fun c_100 => absurd (by decide) c_100)
          refine WX.s1 rfl rfl ?_
          exact WX.ret1 rfl (kk1 hq h1 A1 c p FR_h1 M_h1 FA_1 hP hR (by omega))
        | succ z ih2 =>
          intro c p hz hc hp hR
          rw [qIs]
          obtain ⟨hy1, hy2⟩ := hss1 z (by omega)
          refine WX.s1 rfl rfl ?_
          refine WX.if_ rfl (fun c_100 => absurd c_100 (fun zz_ => absurd ((nI_ltI (a := z) (b := 0) (by omega) (by omega)).mp zz_) (Nat.not_lt.mpr (by omega)))) (fun c_100 => ?_)
          clear c_100
          refine WX.s1 rfl rfl ?_
          refine WX.s1 rfl rfl ?_
          refine WX.s1 rfl rfl ?_
          refine WX.s1 (S' := [.int (512 * (nI tb)), .ref m]) rfl rfl ?_
          rw [show (512 * (nI tb)) = nI (512 * tb) from (Int32.ofNat_mul 512 tb).symm]
          refine WX.s1 rfl rfl ?_
          refine WX.s1 rfl rfl ?_
          refine WX.mget rfl hm M_h1 rfl ?_
          refine WX.s1 rfl rfl ?_
          refine WX.s1 rfl rfl ?_
          refine WX.s1 (S' := [.int (8001 * (nI tb)), .ref (m + 21), .int (nI o), .int (nI (512 * tb)), .ref m]) rfl rfl ?_
          rw [show (8001 * (nI tb)) = nI (8001 * tb) from (Int32.ofNat_mul 8001 tb).symm]
          refine WX.s1 rfl rfl ?_
          refine WX.s1 (S' := [.int ((nI (8001 * tb)) + (nI z)), .ref (m + 21), .int (nI o), .int (nI (512 * tb)), .ref m]) rfl rfl ?_
          rw [show ((nI (8001 * tb)) + (nI z)) = nI (8001 * tb + z) from nI_add (8001 * tb) z]
          refine WX.mald (c := 21) rfl hm M_h1 (by decide) (by decide) (by decide) (by decide) (vp_in_nI (N := 24003) (by omega) (by decide)) ?_
          rw [nI_clamp (by omega), hy1]
          refine WX.s1 rfl rfl ?_
          refine WX.callC (vs := [.ref m, .int (nI (512 * tb)), .int (nI o), .int (nI (ss.getD z 0)), .int (nI p)]) rfl rfl rfl (Nat.le_of_ble_eq_true rfl) (M_h1.rcv hm) ?_
          refine m_leading hm M_h1 ho5 ho (by omega) hS hP hy2 (hq _ (by omega)) hp (fun p2 V hN h27 h28 => ?_)
          obtain ⟨hp2, hV⟩ := nx_lt hN
          show WX _ _ _ 129 [(0, .ref m), (1, .int (nI tb)), (2, .ref (m + 9)), (3, .int (nI f)), (4, .int (nI o)), (5, .int (nI p)), (6, .int (nI c)), (7, .int (nI z))] [.int (nI p2)] (n, s, h1)
          refine WX.s1 (L' := [(0, .ref m), (1, .int (nI tb)), (2, .ref (m + 9)), (3, .int (nI f)), (4, .int (nI o)), (5, .int (nI p2)), (6, .int (nI c)), (7, .int (nI z))]) rfl rfl ?_
          refine WX.s1 rfl rfl ?_
          refine WX.s1 rfl rfl ?_
          refine WX.mget rfl hm M_h1 rfl ?_
          refine WX.s1 rfl rfl ?_
          refine WX.s1 rfl rfl ?_
          refine WX.s1 (S' := [.int (512 * (nI tb)), .ref (m + 27), .int (nI c)]) rfl rfl ?_
          rw [show (512 * (nI tb)) = nI (512 * tb) from (Int32.ofNat_mul 512 tb).symm]
          refine WX.s1 rfl rfl ?_
          refine WX.s1 (S' := [.int ((nI (512 * tb)) + (nI p2)), .ref (m + 27), .int (nI c)]) rfl rfl ?_
          rw [show ((nI (512 * tb)) + (nI p2)) = nI (512 * tb + p2) from nI_add (512 * tb) p2]
          refine WX.mald (c := 27) rfl hm M_h1 (by decide) (by decide) (by decide) (by decide) (vp_in_nI (N := 2048) (by omega) (by decide)) ?_
          rw [nI_clamp (by omega), h27]
          refine WX.s1 (S' := [.int ((nI c) + (nI V))]) rfl rfl ?_
          rw [show ((nI c) + (nI V)) = nI (c + V) from nI_add c V]
          refine WX.s1 (L' := [(0, .ref m), (1, .int (nI tb)), (2, .ref (m + 9)), (3, .int (nI f)), (4, .int (nI o)), (5, .int (nI p2)), (6, .int (nI (c + V))), (7, .int (nI z))]) rfl rfl ?_
          refine WX.s1 (L' := [(0, .ref m), (1, .int (nI tb)), (2, .ref (m + 9)), (3, .int (nI f)), (4, .int (nI o)), (5, .int (nI p2)), (6, .int (nI (c + V))), (7, .int ((nI z) + (-1)))]) rfl rfl ?_
          rw [show (nI z) + (-1) = qI z from qI_dec z]
          refine WX.s1 rfl rfl ?_
          refine ih2 (c + V) p2 (by omega) (by omega) hp2 ?_
          rw [drop_get (show z < ss.length by omega)]
          exact hR.cons hN
      refine lp2 (ss.length - 1) o p0 (by omega) (by omega) hp0.1 ?_
      rw [drop_last (by omega)]
      exact ⟨hp0, rfl⟩
    | succ t ih =>
      intro i hi hq
      obtain ⟨y1, y2⟩ := hss i (by omega)
      have hui := hub _ y2
      refine WX.s1 rfl rfl ?_
      refine WX.s1 rfl rfl ?_
      refine WX.mgetK (x := (nI ss.length)) rfl hm M_h rfl K_I_31 ?_
      refine WX.icmp rfl (fun c_9 => absurd c_9 (fun zz_ => absurd ((nI_leI (a := ss.length) (b := i) (by omega) (by omega)).mp zz_) (Nat.not_le.mpr (by omega)))) (fun c_9 => ?_)
      clear c_9
      refine WX.s1 rfl rfl ?_
      refine WX.s1 rfl rfl ?_
      refine WX.s1 rfl rfl ?_
      refine WX.mget rfl hm M_h rfl ?_
      refine WX.s1 rfl rfl ?_
      refine WX.s1 rfl rfl ?_
      refine WX.s1 (S' := [.int (8001 * (nI tb)), .ref (m + 21), .int (nI f), .ref (m + 9)]) rfl rfl ?_
      rw [show (8001 * (nI tb)) = nI (8001 * tb) from (Int32.ofNat_mul 8001 tb).symm]
      refine WX.s1 rfl rfl ?_
      refine WX.s1 (S' := [.int ((nI (8001 * tb)) + (nI i)), .ref (m + 21), .int (nI f), .ref (m + 9)]) rfl rfl ?_
      rw [show ((nI (8001 * tb)) + (nI i)) = nI (8001 * tb + i) from nI_add (8001 * tb) i]
      refine WX.mald (c := 21) rfl hm M_h (by decide) (by decide) (by decide) (by decide) (vp_in_nI (N := 24003) (by omega) (by decide)) ?_
      rw [nI_clamp (by omega), y1]
      refine WX.s1 (S' := [.int ((nI f) + (nI (ss.getD i 0))), .ref (m + 9)]) rfl rfl ?_
      rw [show ((nI f) + (nI (ss.getD i 0))) = nI (f + ss.getD i 0) from nI_add f (ss.getD i 0)]
      refine WX.mald (c := 9) rfl hm M_h (by decide) (by decide) (by decide) (by decide) (vp_in_nI (N := 192) (by omega) (by decide)) ?_
      rw [nI_clamp (by omega), hU _ y2]
      refine WX.if_ rfl (fun c_29 => ?_) (fun c_29 => ?_)
      · skip
        refine WX.s1 (L' := [(0, .ref m), (1, .int (nI tb)), (2, .ref (m + 9)), (3, .int (nI f)), (4, .int (nI o)), (5, .int ((nI i) + 1))]) rfl rfl ?_
        rw [show ((nI i) + 1) = nI (i + 1) from nI_add i 1]
        refine WX.s1 rfl rfl ?_
        have hz : massU (u (ss.getD i 0)) ≠ 0 := by
          intro z
          apply c_29
          refine (qI_0 (by omega)).mpr ?_
          unfold massU at z
          by_cases y : u (ss.getD i 0) = 0
          · rw [if_pos y] at z; omega
          · rw [if_neg y] at z; omega
        refine ih (i + 1) (by omega) (fun q hq2 => ?_)
        by_cases z : q = i
        · rw [z]; exact hz
        · exact hq q (by omega)
      · skip
        refine WX.s1 rfl rfl ?_
        have hz : massU (u (ss.getD i 0)) = 0 := by
          have z : u (ss.getD i 0) = 1 := (qI_0 (by omega)).mp (Classical.not_not.mp c_29)
          rw [z]; rfl
        exact WX.ret1 rfl (kk2 ⟨i, by omega, hz⟩)
  exact lp ss.length 0 (by omega) (fun q hq => absurd hq (Nat.not_lt_zero q))
