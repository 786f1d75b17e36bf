/-! Share.weigh: points by counts -/
def wU (cnt : Nat → Nat) (o N : Nat) : Nat → Nat := if mSum (u0F cnt (sumN cnt N) o) N < 2 ^ o then (gvN (sumN cnt N) N (u0F cnt (sumN cnt N) o, fun s => ((cnt s * 2 ^ o % sumN cnt N : Nat) : Int)) (2 ^ o - mSum (u0F cnt (sumN cnt N) o) N)).1 else twN N (u0F cnt (sumN cnt N) o) (mSum (u0F cnt (sumN cnt N) o) N - 2 ^ o)
theorem u0_one {cnt : Nat → Nat} {t o s : Nat} (e : 0 < t) : u0F cnt t o s = 1 ↔ cnt s = 0 := by
  have h := u0_nz (cnt := cnt) (o := o) (s := s) e
  unfold nzU at h
  by_cases q : cnt s = 0
  · rw [if_pos q] at h
    by_cases z : u0F cnt t o s = 1
    · exact ⟨fun _ => q, fun _ => z⟩
    · rw [if_neg z] at h; omega
  · rw [if_neg q] at h
    by_cases z : u0F cnt t o s = 1
    · rw [if_pos z] at h; omega
    · exact ⟨fun y => absurd y z, fun y => absurd y q⟩
theorem u0_le {cnt : Nat → Nat} {t o s N : Nat} (ht : sumN cnt N = t) (hs : s < N) (h0 : 0 < t) : u0F cnt t o s ≤ 2 ^ o + 1 := by
  unfold u0F
  by_cases q : cnt s = 0
  · rw [if_pos q]; exact Nat.le_add_left _ _
  · rw [if_neg q]
    by_cases z : cnt s * 2 ^ o < t
    · rw [if_pos z]; exact Nat.zero_le _
    · rw [if_neg z]
      have h1 : cnt s ≤ t := by rw [← ht]; exact sumN_get cnt hs
      have h2 : cnt s * 2 ^ o / t ≤ 2 ^ o := Nat.div_le_of_le_mul (Nat.mul_le_mul_right _ h1)
      omega
theorem u0_sum {cnt : Nat → Nat} {t o N : Nat} (e : 0 < t) : nSum (u0F cnt t o) N = nzC cnt N := sumN_eq (fun s _ => u0_nz e)
theorem wU_ok {cnt : Nat → Nat} {o N : Nat} (hN : 0 < N) (ht : 0 < sumN cnt N) (hn : nzC cnt N ≤ 2 ^ o) : mSum (wU cnt o N) N = 2 ^ o ∧ (∀ s, wU cnt o N s = 1 ↔ cnt s = 0) := by
  unfold wU
  by_cases q : mSum (u0F cnt (sumN cnt N) o) N < 2 ^ o
  · rw [if_pos q]
    obtain ⟨s, hs, hc, hle⟩ := ex_share rfl ht (Nat.pow_pos (by decide)) hn
    have h2 : 2 ≤ u0F cnt (sumN cnt N) o s := by
      unfold u0F
      rw [if_neg hc, if_neg (by omega)]
      have : 1 ≤ cnt s * 2 ^ o / sumN cnt N := (Nat.le_div_iff_mul_le ht).mpr (by omega)
      omega
    have h := gv_inv (r := fun s => ((cnt s * 2 ^ o % sumN cnt N : Nat) : Int)) (t := sumN cnt N) hs h2 (2 ^ o - mSum (u0F cnt (sumN cnt N) o) N)
    exact ⟨by rw [h.1]; omega, fun s => (h.2.1 s).trans (u0_one ht)⟩
  · rw [if_neg q]
    have h := tw_inv (u := u0F cnt (sumN cnt N) o) (M := 2 ^ o) hN (by rw [u0_sum ht]; exact hn) (mSum (u0F cnt (sumN cnt N) o) N - 2 ^ o) (by omega)
    exact ⟨by rw [h.1]; omega, fun s => (h.2.2.1 s).trans (u0_one ht)⟩
theorem wU_le {cnt : Nat → Nat} {o N s : Nat} (hN : 0 < N) (ht : 0 < sumN cnt N) (hn : nzC cnt N ≤ 2 ^ o) (hs : s < N) : wU cnt o N s ≤ 2 ^ o + 1 := by
  have h1 := sumN_get (fun s => massU (wU cnt o N s)) hs
  have h2 : sumN (fun s => massU (wU cnt o N s)) N = 2 ^ o := (wU_ok hN ht hn).1
  have h3 : massU (wU cnt o N s) ≤ 2 ^ o := by rw [← h2]; exact h1
  unfold massU at h3
  by_cases q : wU cnt o N s = 0
  · omega
  · rw [if_neg q] at h3; omega
theorem lk_le {a b : Nat} (ha : a < 2 ^ 30) (hb : b < 2 ^ 30) : nI a - nI b ≤ 0 ↔ a ≤ b := by
  rw [Int32.le_iff_toInt_le, Int32.toInt_sub, nI_toInt (by omega), nI_toInt (by omega), Int.bmod_eq_of_le (by omega) (by omega)]
  show (a : Int) - b ≤ 0 ↔ _
  omega
theorem lk_step (a b c : Nat) : nI a - nI b - nI c = nI a - nI (b + c) := by rw [Int32.sub_sub, nI_add]
theorem lk_neg (a b : Nat) (h : a ≤ b) : -(nI a - nI b) = nI (b - a) := by rw [Int32.neg_sub]; exact nI_subN h
theorem shlo {x o : Nat} (hx : x ≤ 100000) (ho : o ≤ 9) : nI x <<< (nI o &&& 31) = nI (x * 2 ^ o) := pk_shlN _ o (sm31 o (by omega)) (by have : x * 2 ^ o ≤ 100000 * 2 ^ 9 := Nat.mul_le_mul hx (Nat.pow_le_pow_right (by decide) ho); omega)
def CntIs (cA : Nat → Int32) (cnt : Nat → Nat) (N : Nat) : Prop := ∀ s, s < N → cA s = nI (cnt s)
set_option maxRecDepth 20000 in
theorem x_weigh {d n s : Nat} {h : Nat → aE} {k l o q : Nat} {od th : Int32} {pA rA cA : Nat → Int32} {cnt : Nat → Nat}  (hk : k + 6 < n) (hq : q < n) (hqk : q < k ∨ k + 6 < q) (hl : l < 64) (ho : o ≤ 9) (hcA : CntIs cA cnt (l + 1)) (ht0 : 0 < (sumN cnt (l + 1))) (htb : (sumN cnt (l + 1)) ≤ 100000) (hnz : nzC cnt (l + 1) ≤ 2 ^ o) (F_h_k : h k = .inr (8, [.int (nI l), .ref (k + 1), .ref (k + 2), .ref (k + 3), .ref (k + 4), .ref (k + 5), .ref (k + 6), .int od, .int th])) (F_h__k_1_ : h (k + 1) = .inl (1, (l + 1), .inl pA)) (F_h__k_2_ : h (k + 2) = .inl (1, (l + 1), .inl rA)) (F_h_q : h q = .inl (1, (l + 1), .inl cA))  {Ψ : Option Value → aH → Prop} (kk : ∀ h' pA' rA', Fr h h' (fun j => j = k ∨ j = k + 1 ∨ j = k + 2) → h' k = .inr (8, [.int (nI l), .ref (k + 1), .ref (k + 2), .ref (k + 3), .ref (k + 4), .ref (k + 5), .ref (k + 6), .int (nI o), .int th]) → h' (k + 1) = .inl (1, l + 1, .inl pA') → h' (k + 2) = .inl (1, l + 1, .inl rA') → UIs pA' (wU cnt o (l + 1)) (l + 1) → Ψ none (n, s, h')) : WO (mM (d + 2)) 100 [.ref k, .ref q, .int (nI o)] (n, s, h) Ψ := by
  refine WO.of (Nat.le_of_ble_eq_true rfl) ?_
  have FR_h : Fr h h (fun j => j = k ∨ j = k + 1 ∨ j = k + 2) := Fr.rf
  have h2o : 2 ^ o ≤ 2 ^ 9 := Nat.pow_le_pow_right (by decide) ho
  have h2p : 0 < 2 ^ o := Nat.pow_pos (by decide)
  show WX (lk tX8_weigh) (mM (d + 1)) Ψ 0 [(0, .ref k), (1, .ref q), (2, .int (nI o))] [] (n, s, h)
  refine WX.s1 rfl rfl ?_
  refine WX.s1 (L' := [(0, .ref k), (1, .ref q), (2, .int (nI o)), (3, .int 0)]) rfl rfl ?_
  refine WX.s1 rfl rfl ?_
  refine WX.s1 (L' := [(0, .ref k), (1, .ref q), (2, .int (nI o)), (3, .int 0), (4, .int 0)]) rfl rfl ?_
  have lp5 : ∀ (tt i : Nat), i + tt = l + 1 → WX (lk tX8_weigh) (mM (d + 1)) Ψ 5 [(0, .ref k), (1, .ref q), (2, .int (nI o)), (3, .int (nI (sumN cnt i))), (4, .int (nI i))] [] (n, s, h) := by
    intro tt
    induction tt with
    | zero =>
      intro i hi
      obtain rfl : i = l + 1 := by omega
      refine WX.s1 rfl rfl ?_
      refine WX.s1 rfl rfl ?_
      refine WX.get1 (fs := [.int (nI l), .ref (k + 1), .ref (k + 2), .ref (k + 3), .ref (k + 4), .ref (k + 5), .ref (k + 6), .int od, .int th]) rfl (by omega) (F_h_k) rfl ?_
      refine WX.icmp rfl (fun c_11 => ?_) (fun c_11 => absurd ((nI_ltI (a := l) (b := l + 1) (by omega) (by omega)).mpr (by omega)) c_11)
      clear c_11
      refine WX.s1 rfl rfl ?_
      refine WX.s1 rfl rfl ?_
      refine WX.put1 (fs := [.int (nI l), .ref (k + 1), .ref (k + 2), .ref (k + 3), .ref (k + 4), .ref (k + 5), .ref (k + 6), .int od, .int th]) (fs' := [.int (nI l), .ref (k + 1), .ref (k + 2), .ref (k + 3), .ref (k + 4), .ref (k + 5), .ref (k + 6), .int (nI o), .int th]) rfl (by omega) (F_h_k) (Nat.le_of_ble_eq_true rfl) (rfl) rfl (fun h36 e_h36 => ?_)
      have F_h36_k : h36 k = .inr (8, [.int (nI l), .ref (k + 1), .ref (k + 2), .ref (k + 3), .ref (k + 4), .ref (k + 5), .ref (k + 6), .int (nI o), .int th]) := by rw [e_h36]; exact va_up_eq
      have F_h36__k_1_ : h36 (k + 1) = .inl (1, (l + 1), .inl pA) := by rw [e_h36, va_up_neq (nek0 (a := 1) (by decide))]; exact F_h__k_1_
      have F_h36__k_2_ : h36 (k + 2) = .inl (1, (l + 1), .inl rA) := by rw [e_h36, va_up_neq (nek0 (a := 2) (by decide))]; exact F_h__k_2_
      have F_h36_q : h36 q = .inl (1, (l + 1), .inl cA) := by rw [e_h36, va_up_neq (by omega)]; exact F_h_q
      have FR_h36 : Fr h h36 (fun j => j = k ∨ j = k + 1 ∨ j = k + 2) := FR_h.zup e_h36 (by first | exact rfl | exact Or.inl rfl | exact Or.inr rfl | exact ⟨by decide, by decide⟩ | decide | omega)
      refine WX.s1 rfl rfl ?_
      refine WX.s1 rfl rfl ?_
      refine WX.s1 (S' := [.int (1 <<< ((nI o) &&& 31))]) rfl rfl ?_
      rw [sh1 o (by omega)]
      refine WX.s1 (L' := [(0, .ref k), (1, .ref q), (2, .int (nI o)), (3, .int (nI (sumN cnt (l + 1)))), (4, .int (nI (2 ^ o)))]) rfl rfl ?_
      refine WX.s1 rfl rfl ?_
      refine WX.s1 (L' := [(0, .ref k), (1, .ref q), (2, .int (nI o)), (3, .int (nI (sumN cnt (l + 1)))), (4, .int (nI (2 ^ o))), (5, .int 0)]) rfl rfl ?_
      have hu0 : ∀ s, s < l + 1 → (u0F cnt (sumN cnt (l + 1)) o) s ≤ 2 ^ o + 1 := fun s hs => u0_le rfl hs ht0
      have hS : ∀ i, i ≤ l + 1 → (sumN (fun s => massU ((u0F cnt (sumN cnt (l + 1)) o) s)) i) ≤ i * 600 := by
        intro i
        induction i with
        | zero => intro _; exact Nat.zero_le _
        | succ i ih =>
          intro hi
          have h1 := ih (by omega)
          have h2 := hu0 i (by omega)
          have h3 : massU ((u0F cnt (sumN cnt (l + 1)) o) i) ≤ 600 := by unfold massU; by_cases z : (u0F cnt (sumN cnt (l + 1)) o) i = 0; (rw [if_pos z]; decide); (rw [if_neg z]; omega)
          show (sumN (fun s => massU ((u0F cnt (sumN cnt (l + 1)) o) s)) i) + massU ((u0F cnt (sumN cnt (l + 1)) o) i) ≤ _
          omega
      have lp47 : ∀ (tt i : Nat) (hL : Nat → aE) (pL rL : Nat → Int32), i + tt = l + 1 → Fr h hL (fun j => j = k ∨ j = k + 1 ∨ j = k + 2) → hL k = .inr (8, [.int (nI l), .ref (k + 1), .ref (k + 2), .ref (k + 3), .ref (k + 4), .ref (k + 5), .ref (k + 6), .int (nI o), .int th]) → hL (k + 1) = .inl (1, l + 1, .inl pL) → hL (k + 2) = .inl (1, l + 1, .inl rL) → (∀ s, s < i → pL s = qI ((u0F cnt (sumN cnt (l + 1)) o) s)) → (∀ s, s < i → rL s = nI (cnt s * 2 ^ o % (sumN cnt (l + 1)))) → WX (lk tX8_weigh) (mM (d + 1)) Ψ 47 [(0, .ref k), (1, .ref q), (2, .int (nI o)), (3, .int (nI (sumN cnt (l + 1)))), (4, .int (nI (2 ^ o) - nI (sumN (fun s => massU ((u0F cnt (sumN cnt (l + 1)) o) s)) i))), (5, .int (nI i))] [] (n, s, hL) := by
        have F0q : h q = .inl (1, l + 1, .inl cA) := (FR_h36 q (by omega)).symm.trans F_h36_q
        clear F_h36_k F_h36__k_1_ F_h36__k_2_ F_h36_q FR_h36
        intro tt
        induction tt with
        | zero =>
          intro i hL pL rL hi FR_hL F_hL_k F_hL__k_1_ F_hL__k_2_ hP hR
          have F_hL_q : hL q = .inl (1, l + 1, .inl cA) := (FR_hL q (by omega)).trans F0q
          have hSi := hS i (by omega)
          obtain rfl : i = l + 1 := by omega
          have hUI : UIs pL (u0F cnt (sumN cnt (l + 1)) o) (l + 1) := fun s hs => ⟨hP s hs, by have := hu0 s hs; omega⟩
          have hms : (sumN (fun s => massU ((u0F cnt (sumN cnt (l + 1)) o) s)) (l + 1)) = mSum (u0F cnt (sumN cnt (l + 1)) o) (l + 1) := rfl
          rw [hms] at hSi ⊢
          refine WX.s1 rfl rfl ?_
          refine WX.s1 rfl rfl ?_
          refine WX.get1 (fs := [.int (nI l), .ref (k + 1), .ref (k + 2), .ref (k + 3), .ref (k + 4), .ref (k + 5), .ref (k + 6), .int (nI o), .int th]) rfl (by omega) (F_hL_k) rfl ?_
          refine WX.icmp rfl (fun c_53 => ?_) (fun c_53 => absurd ((nI_ltI (a := l) (b := l + 1) (by omega) (by omega)).mpr (by omega)) c_53)
          clear c_53
          refine WX.s1 rfl rfl ?_
          refine WX.if_ rfl (fun c_141 => ?_) (fun c_141 => ?_)
          · skip
            have hge : 2 ^ o ≤ mSum (u0F cnt (sumN cnt (l + 1)) o) (l + 1) := (lk_le (by omega) (by omega)).mp c_141
            refine WX.s1 rfl rfl ?_
            refine WX.s1 rfl rfl ?_
            refine WX.s1 (S' := [.int (-(nI (2 ^ o) - nI (mSum (u0F cnt (sumN cnt (l + 1)) o) (l + 1)))), .ref k]) rfl rfl ?_
            rw [lk_neg _ _ hge]
            refine WX.callC (vs := [.ref k, .int (nI (mSum (u0F cnt (sumN cnt (l + 1)) o) (l + 1) - 2 ^ o))]) rfl rfl rfl (Nat.le_of_ble_eq_true rfl) (rcv_ok (by omega) F_hL_k) ?_
            refine x_take hk (by omega) hUI (by omega) (fun j hj => ?_) F_hL_k F_hL__k_1_ (fun h9 p9 fr9 a1 hU9 => ?_)
            · obtain ⟨i1, i2, -⟩ := tw_inv (u := (u0F cnt (sumN cnt (l + 1)) o)) (N := l + 1) (M := 2 ^ o) (by omega) (by rw [u0_sum ht0]; exact hnz) j (by omega)
              have := ex_big (u := twN (l + 1) (u0F cnt (sumN cnt (l + 1)) o) j) (N := l + 1) (by rw [i1, i2, u0_sum ht0]; omega)
              omega
            · show WX _ _ _ 161 [(0, .ref k), (1, .ref q), (2, .int (nI o)), (3, .int (nI (sumN cnt (l + 1)))), (4, .int (nI (2 ^ o) - nI (mSum (u0F cnt (sumN cnt (l + 1)) o) (l + 1)))), (5, .int (nI (l + 1)))] [] (n, s, h9)
              refine WX.ret0 rfl (kk h9 p9 rL (FR_hL.zsub fr9 (fun j hj => by omega)) ((fr9 k (by omega)).trans F_hL_k) a1 ((fr9 (k + 2) (by omega)).trans F_hL__k_2_) ?_)
              unfold wU
              rw [if_neg (by omega)]
              exact hU9
          · skip
            have hlt : mSum (u0F cnt (sumN cnt (l + 1)) o) (l + 1) < 2 ^ o := Nat.lt_of_not_le (fun z => c_141 ((lk_le (by omega) (by omega)).mpr z))
            rw [nI_subN (Nat.le_of_lt hlt)]
            refine WX.s1 rfl rfl ?_
            refine WX.s1 rfl rfl ?_
            refine WX.s1 rfl rfl ?_
            refine WX.callC (vs := [.ref k, .int (nI (2 ^ o - mSum (u0F cnt (sumN cnt (l + 1)) o) (l + 1))), .int (nI (sumN cnt (l + 1)))]) rfl rfl rfl (Nat.le_of_ble_eq_true rfl) (rcv_ok (by omega) F_hL_k) ?_
            refine x_give (r := fun s => ((cnt s * 2 ^ o % (sumN cnt (l + 1)) : Nat) : Int)) hk (by omega) hUI (fun s hs => by have := hu0 s hs; omega) (fun s hs => ?_) htb (by omega) F_hL_k F_hL__k_1_ F_hL__k_2_ (fun h9 p9 r9 fr9 a1 a2 hU9 => ?_)
            · have hr := Nat.mod_lt (cnt s * 2 ^ o) ht0
              rw [hR s hs]
              refine ⟨nI_toInt (by omega), ?_, ?_⟩
              · show -(0 : Int) ≤ ((cnt s * 2 ^ o % (sumN cnt (l + 1)) : Nat) : Int); omega
              · show ((cnt s * 2 ^ o % (sumN cnt (l + 1)) : Nat) : Int) ≤ 100000000; omega
            · show WX _ _ _ 151 [(0, .ref k), (1, .ref q), (2, .int (nI o)), (3, .int (nI (sumN cnt (l + 1)))), (4, .int (nI (2 ^ o - mSum (u0F cnt (sumN cnt (l + 1)) o) (l + 1)))), (5, .int (nI (l + 1)))] [] (n, s, h9)
              refine WX.s1 rfl rfl ?_
              refine WX.ret0 rfl (kk h9 p9 r9 (FR_hL.zsub fr9 (fun j hj => by omega)) ((fr9 k (by omega)).trans F_hL_k) a1 a2 ?_)
              unfold wU
              rw [if_pos hlt]
              exact hU9
        | succ tt ih =>
          intro i hL pL rL hi FR_hL F_hL_k F_hL__k_1_ F_hL__k_2_ hP hR
          have F_hL_q : hL q = .inl (1, l + 1, .inl cA) := (FR_hL q (by omega)).trans F0q
          have hSi := hS i (by omega)
          have hci := sumN_get cnt (show i < l + 1 by omega)
          have hcb : cnt i * 2 ^ o ≤ 100000 * 2 ^ 9 := Nat.mul_le_mul (by omega) h2o
          refine WX.s1 rfl rfl ?_
          refine WX.s1 rfl rfl ?_
          refine WX.get1 (fs := [.int (nI l), .ref (k + 1), .ref (k + 2), .ref (k + 3), .ref (k + 4), .ref (k + 5), .ref (k + 6), .int (nI o), .int th]) rfl (by omega) (F_hL_k) rfl ?_
          refine WX.icmp rfl (fun c_53 => absurd c_53 (fun zz_ => absurd ((nI_ltI (a := l) (b := i) (by omega) (by omega)).mp zz_) (Nat.not_lt.mpr (by omega)))) (fun c_53 => ?_)
          clear c_53
          refine WX.s1 rfl rfl ?_
          refine WX.s1 rfl rfl ?_
          refine WX.len1 rfl (Or.inl ⟨by omega, by decide⟩) (F_hL_q) ?_
          refine WX.icmp rfl (fun c_60 => absurd c_60 (fun zz_ => absurd ((nI_leI (a := l + 1) (b := i) (by omega) (by omega)).mp zz_) (Nat.not_le.mpr (by omega)))) (fun c_60 => ?_)
          clear c_60
          refine WX.s1 rfl rfl ?_
          refine WX.if_ rfl (fun c_64 => absurd c_64 (fun zz_ => absurd ((nI_leI (a := sumN cnt (l + 1)) (b := 0) (by omega) (by omega)).mp zz_) (Nat.not_le.mpr (by omega)))) (fun c_64 => ?_)
          clear c_64
          refine WX.s1 rfl rfl ?_
          refine WX.s1 rfl rfl ?_
          refine WX.iald1 rfl (Or.inl (by omega)) (F_hL_q) (vp_in_nI (by omega) (by omega)) ?_
          rw [nI_clamp (by omega), hcA i (by omega)]
          refine WX.s1 rfl rfl ?_
          refine WX.s1 (S' := [.int ((nI (cnt i)) <<< ((nI o) &&& 31))]) rfl rfl ?_
          rw [shlo (by omega) ho]
          refine WX.s1 (L' := [(0, .ref k), (1, .ref q), (2, .int (nI o)), (3, .int (nI (sumN cnt (l + 1)))), (4, .int (nI (2 ^ o) - nI (sumN (fun s => massU ((u0F cnt (sumN cnt (l + 1)) o) s)) i))), (5, .int (nI i)), (6, .int (nI (cnt i * 2 ^ o)))]) rfl rfl ?_
          refine WX.s1 rfl rfl ?_
          refine WX.get1 (fs := [.int (nI l), .ref (k + 1), .ref (k + 2), .ref (k + 3), .ref (k + 4), .ref (k + 5), .ref (k + 6), .int (nI o), .int th]) rfl (by omega) (F_hL_k) rfl ?_
          refine WX.s1 rfl rfl ?_
          refine WX.s1 rfl rfl ?_
          refine WX.s1 rfl rfl ?_
          refine WX.iald1 rfl (Or.inl (by omega)) (F_hL_q) (vp_in_nI (by omega) (by omega)) ?_
          rw [nI_clamp (by omega), hcA i (by omega)]
          refine WX.if_ rfl (fun c_85 => ?_) (fun c_85 => ?_)
          · skip
            have n_85 : ¬ (cnt i) = 0 := fun zz_ => c_85 ((nI_eq (a := cnt i) (b := 0) (by omega) (by omega)).mpr zz_)
            refine WX.s1 rfl rfl ?_
            refine WX.s1 rfl rfl ?_
            refine WX.icmp rfl (fun c_95 => ?_) (fun c_95 => ?_)
            · skip
              have n_95 : (sumN cnt (l + 1)) ≤ (cnt i * 2 ^ o) := (nI_leI (a := sumN cnt (l + 1)) (b := cnt i * 2 ^ o) (by omega) (by omega)).mp c_95
              refine WX.s1 rfl rfl ?_
              refine WX.s1 rfl rfl ?_
              refine WX.div rfl (nI_ne0 ht0 (by omega)) ?_
              rw [pk_div (by omega) ht0 (by omega)]
              have hval : (nI (cnt i * 2 ^ o / (sumN cnt (l + 1)))) = qI ((u0F cnt (sumN cnt (l + 1)) o) i) := by
                unfold u0F
                rw [if_neg n_85, if_neg (by omega), qIs]
              refine WX.iastN rfl (by omega) (F_hL__k_1_) (vp_in_nI (by omega) (by omega)) (fun g106 h106 e_g106 e_h106 => ?_)
              try dsimp only at e_g106
              have F_h106_k : h106 k = .inr (8, [.int (nI l), .ref (k + 1), .ref (k + 2), .ref (k + 3), .ref (k + 4), .ref (k + 5), .ref (k + 6), .int (nI o), .int th]) := by rw [e_h106, va_up_neq (nek1 (a := 1) (by decide))]; exact F_hL_k
              have F_h106__k_1_ : h106 (k + 1) = .inl (1, (l + 1), .inl g106) := by rw [e_h106]; exact va_up_eq
              have F_h106__k_2_ : h106 (k + 2) = .inl (1, (l + 1), .inl rL) := by rw [e_h106, va_up_neq (nek (a := 2) (b := 1) (by decide))]; exact F_hL__k_2_
              have F_h106_q : h106 q = .inl (1, (l + 1), .inl cA) := by rw [e_h106, va_up_neq (by omega)]; exact F_hL_q
              have FR_h106 : Fr h h106 (fun j => j = k ∨ j = k + 1 ∨ j = k + 2) := FR_hL.zup e_h106 (by first | exact rfl | exact Or.inl rfl | exact Or.inr rfl | exact ⟨by decide, by decide⟩ | decide | omega)
              refine WX.s1 rfl rfl ?_
              refine WX.get1 (fs := [.int (nI l), .ref (k + 1), .ref (k + 2), .ref (k + 3), .ref (k + 4), .ref (k + 5), .ref (k + 6), .int (nI o), .int th]) rfl (by omega) (F_h106_k) rfl ?_
              refine WX.s1 rfl rfl ?_
              refine WX.s1 rfl rfl ?_
              refine WX.s1 rfl rfl ?_
              refine WX.div rfl (nI_ne0 ht0 (by omega)) ?_
              rw [pk_rem (by omega) ht0 (by omega)]
              refine WX.iastN rfl (by omega) (F_h106__k_2_) (vp_in_nI (by omega) (by omega)) (fun g117 h117 e_g117 e_h117 => ?_)
              try dsimp only at e_g117
              have F_h117_k : h117 k = .inr (8, [.int (nI l), .ref (k + 1), .ref (k + 2), .ref (k + 3), .ref (k + 4), .ref (k + 5), .ref (k + 6), .int (nI o), .int th]) := by rw [e_h117, va_up_neq (nek1 (a := 2) (by decide))]; exact F_h106_k
              have F_h117__k_1_ : h117 (k + 1) = .inl (1, (l + 1), .inl g106) := by rw [e_h117, va_up_neq (nek (a := 1) (b := 2) (by decide))]; exact F_h106__k_1_
              have F_h117__k_2_ : h117 (k + 2) = .inl (1, (l + 1), .inl g117) := by rw [e_h117]; exact va_up_eq
              have F_h117_q : h117 q = .inl (1, (l + 1), .inl cA) := by rw [e_h117, va_up_neq (by omega)]; exact F_h106_q
              have FR_h117 : Fr h h117 (fun j => j = k ∨ j = k + 1 ∨ j = k + 2) := FR_h106.zup e_h117 (by first | exact rfl | exact Or.inl rfl | exact Or.inr rfl | exact ⟨by decide, by decide⟩ | decide | omega)
              refine WX.s1 rfl rfl ?_
              refine WX.s1 rfl rfl ?_
              refine WX.get1 (fs := [.int (nI l), .ref (k + 1), .ref (k + 2), .ref (k + 3), .ref (k + 4), .ref (k + 5), .ref (k + 6), .int (nI o), .int th]) rfl (by omega) (F_h117_k) rfl ?_
              refine WX.s1 rfl rfl ?_
              refine WX.iald1 rfl (Or.inl (by omega)) (F_h117__k_1_) (vp_in_nI (by omega) (by omega)) ?_
              rw [nI_clamp (by omega), e_g106, nI_clamp (by omega), pk_us, hval]
              refine WX.s1 (S' := [.int (if 0 ≤ (qI ((u0F cnt (sumN cnt (l + 1)) o) i)) then (qI ((u0F cnt (sumN cnt (l + 1)) o) i)) else 0 - (qI ((u0F cnt (sumN cnt (l + 1)) o) i))), .int (nI (2 ^ o) - nI (sumN (fun s => massU ((u0F cnt (sumN cnt (l + 1)) o) s)) i))]) rfl rfl ?_
              rw [qI_abs (by have := hu0 i (by omega); omega)]
              refine WX.s1 (S' := [.int ((nI (2 ^ o) - nI (sumN (fun s => massU ((u0F cnt (sumN cnt (l + 1)) o) s)) i)) - (nI (massU ((u0F cnt (sumN cnt (l + 1)) o) i))))]) rfl rfl ?_
              rw [lk_step]
              refine WX.s1 (L' := [(0, .ref k), (1, .ref q), (2, .int (nI o)), (3, .int (nI (sumN cnt (l + 1)))), (4, .int (nI (2 ^ o) - nI ((sumN (fun s => massU ((u0F cnt (sumN cnt (l + 1)) o) s)) i) + massU ((u0F cnt (sumN cnt (l + 1)) o) i)))), (5, .int (nI i)), (6, .int (nI (cnt i * 2 ^ o)))]) rfl rfl ?_
              refine WX.s1 (L' := [(0, .ref k), (1, .ref q), (2, .int (nI o)), (3, .int (nI (sumN cnt (l + 1)))), (4, .int (nI (2 ^ o) - nI ((sumN (fun s => massU ((u0F cnt (sumN cnt (l + 1)) o) s)) i) + massU ((u0F cnt (sumN cnt (l + 1)) o) i)))), (5, .int ((nI i) + 1)), (6, .int (nI (cnt i * 2 ^ o)))]) rfl rfl ?_
              rw [show ((nI i) + 1) = nI (i + 1) from nI_add i 1]
              refine WX.s1 rfl rfl ?_
              refine WX.keep (y := 100) [0, 1, 2, 3, 4, 5] (show ([0, 1, 2, 3, 4, 5, 6] : List Nat).Nodup by decide) rfl ?_
              refine ih (i + 1) h117 g106 g117 (by omega) FR_h117 F_h117_k F_h117__k_1_ F_h117__k_2_ (fun s hs => ?_) (fun s hs => ?_)
              · rw [e_g106, nI_clamp (by omega)]
                by_cases z : s = i
                · rw [z, pk_us]; exact hval
                · rw [pk_un z]; exact hP s (by omega)
              · rw [e_g117, nI_clamp (by omega)]
                by_cases z : s = i
                · rw [z, pk_us]
                · rw [pk_un z]; exact hR s (by omega)
            · skip
              have n_95 : (cnt i * 2 ^ o) < (sumN cnt (l + 1)) := Nat.lt_of_not_le (fun zz_ => c_95 ((nI_leI (a := sumN cnt (l + 1)) (b := cnt i * 2 ^ o) (by omega) (by omega)).mpr zz_))
              refine WX.s1 rfl rfl ?_
              refine WX.s1 rfl rfl ?_
              have hval : (-1 : Int32) = qI ((u0F cnt (sumN cnt (l + 1)) o) i) := by
                unfold u0F
                rw [if_neg n_85, if_pos n_95]
                rfl
              refine WX.iastN rfl (by omega) (F_hL__k_1_) (vp_in_nI (by omega) (by omega)) (fun g106 h106 e_g106 e_h106 => ?_)
              try dsimp only at e_g106
              have F_h106_k : h106 k = .inr (8, [.int (nI l), .ref (k + 1), .ref (k + 2), .ref (k + 3), .ref (k + 4), .ref (k + 5), .ref (k + 6), .int (nI o), .int th]) := by rw [e_h106, va_up_neq (nek1 (a := 1) (by decide))]; exact F_hL_k
              have F_h106__k_1_ : h106 (k + 1) = .inl (1, (l + 1), .inl g106) := by rw [e_h106]; exact va_up_eq
              have F_h106__k_2_ : h106 (k + 2) = .inl (1, (l + 1), .inl rL) := by rw [e_h106, va_up_neq (nek (a := 2) (b := 1) (by decide))]; exact F_hL__k_2_
              have F_h106_q : h106 q = .inl (1, (l + 1), .inl cA) := by rw [e_h106, va_up_neq (by omega)]; exact F_hL_q
              have FR_h106 : Fr h h106 (fun j => j = k ∨ j = k + 1 ∨ j = k + 2) := FR_hL.zup e_h106 (by first | exact rfl | exact Or.inl rfl | exact Or.inr rfl | exact ⟨by decide, by decide⟩ | decide | omega)
              refine WX.s1 rfl rfl ?_
              refine WX.get1 (fs := [.int (nI l), .ref (k + 1), .ref (k + 2), .ref (k + 3), .ref (k + 4), .ref (k + 5), .ref (k + 6), .int (nI o), .int th]) rfl (by omega) (F_h106_k) rfl ?_
              refine WX.s1 rfl rfl ?_
              refine WX.s1 rfl rfl ?_
              refine WX.s1 rfl rfl ?_
              refine WX.div rfl (nI_ne0 ht0 (by omega)) ?_
              rw [pk_rem (by omega) ht0 (by omega)]
              refine WX.iastN rfl (by omega) (F_h106__k_2_) (vp_in_nI (by omega) (by omega)) (fun g117 h117 e_g117 e_h117 => ?_)
              try dsimp only at e_g117
              have F_h117_k : h117 k = .inr (8, [.int (nI l), .ref (k + 1), .ref (k + 2), .ref (k + 3), .ref (k + 4), .ref (k + 5), .ref (k + 6), .int (nI o), .int th]) := by rw [e_h117, va_up_neq (nek1 (a := 2) (by decide))]; exact F_h106_k
              have F_h117__k_1_ : h117 (k + 1) = .inl (1, (l + 1), .inl g106) := by rw [e_h117, va_up_neq (nek (a := 1) (b := 2) (by decide))]; exact F_h106__k_1_
              have F_h117__k_2_ : h117 (k + 2) = .inl (1, (l + 1), .inl g117) := by rw [e_h117]; exact va_up_eq
              have F_h117_q : h117 q = .inl (1, (l + 1), .inl cA) := by rw [e_h117, va_up_neq (by omega)]; exact F_h106_q
              have FR_h117 : Fr h h117 (fun j => j = k ∨ j = k + 1 ∨ j = k + 2) := FR_h106.zup e_h117 (by first | exact rfl | exact Or.inl rfl | exact Or.inr rfl | exact ⟨by decide, by decide⟩ | decide | omega)
              refine WX.s1 rfl rfl ?_
              refine WX.s1 rfl rfl ?_
              refine WX.get1 (fs := [.int (nI l), .ref (k + 1), .ref (k + 2), .ref (k + 3), .ref (k + 4), .ref (k + 5), .ref (k + 6), .int (nI o), .int th]) rfl (by omega) (F_h117_k) rfl ?_
              refine WX.s1 rfl rfl ?_
              refine WX.iald1 rfl (Or.inl (by omega)) (F_h117__k_1_) (vp_in_nI (by omega) (by omega)) ?_
              rw [nI_clamp (by omega), e_g106, nI_clamp (by omega), pk_us, hval]
              refine WX.s1 (S' := [.int (if 0 ≤ (qI ((u0F cnt (sumN cnt (l + 1)) o) i)) then (qI ((u0F cnt (sumN cnt (l + 1)) o) i)) else 0 - (qI ((u0F cnt (sumN cnt (l + 1)) o) i))), .int (nI (2 ^ o) - nI (sumN (fun s => massU ((u0F cnt (sumN cnt (l + 1)) o) s)) i))]) rfl rfl ?_
              rw [qI_abs (by have := hu0 i (by omega); omega)]
              refine WX.s1 (S' := [.int ((nI (2 ^ o) - nI (sumN (fun s => massU ((u0F cnt (sumN cnt (l + 1)) o) s)) i)) - (nI (massU ((u0F cnt (sumN cnt (l + 1)) o) i))))]) rfl rfl ?_
              rw [lk_step]
              refine WX.s1 (L' := [(0, .ref k), (1, .ref q), (2, .int (nI o)), (3, .int (nI (sumN cnt (l + 1)))), (4, .int (nI (2 ^ o) - nI ((sumN (fun s => massU ((u0F cnt (sumN cnt (l + 1)) o) s)) i) + massU ((u0F cnt (sumN cnt (l + 1)) o) i)))), (5, .int (nI i)), (6, .int (nI (cnt i * 2 ^ o)))]) rfl rfl ?_
              refine WX.s1 (L' := [(0, .ref k), (1, .ref q), (2, .int (nI o)), (3, .int (nI (sumN cnt (l + 1)))), (4, .int (nI (2 ^ o) - nI ((sumN (fun s => massU ((u0F cnt (sumN cnt (l + 1)) o) s)) i) + massU ((u0F cnt (sumN cnt (l + 1)) o) i)))), (5, .int ((nI i) + 1)), (6, .int (nI (cnt i * 2 ^ o)))]) rfl rfl ?_
              rw [show ((nI i) + 1) = nI (i + 1) from nI_add i 1]
              refine WX.s1 rfl rfl ?_
              refine WX.keep (y := 100) [0, 1, 2, 3, 4, 5] (show ([0, 1, 2, 3, 4, 5, 6] : List Nat).Nodup by decide) rfl ?_
              refine ih (i + 1) h117 g106 g117 (by omega) FR_h117 F_h117_k F_h117__k_1_ F_h117__k_2_ (fun s hs => ?_) (fun s hs => ?_)
              · rw [e_g106, nI_clamp (by omega)]
                by_cases z : s = i
                · rw [z, pk_us]; exact hval
                · rw [pk_un z]; exact hP s (by omega)
              · rw [e_g117, nI_clamp (by omega)]
                by_cases z : s = i
                · rw [z, pk_us]
                · rw [pk_un z]; exact hR s (by omega)
          · skip
            have n_85 : (cnt i) = 0 := (nI_eq (a := cnt i) (b := 0) (by omega) (by omega)).mp (Classical.not_not.mp c_85)
            refine WX.s1 rfl rfl ?_
            refine WX.s1 rfl rfl ?_
            have hval : (0 : Int32) = qI ((u0F cnt (sumN cnt (l + 1)) o) i) := by
              unfold u0F
              rw [if_pos n_85]
              rfl
            refine WX.iastN rfl (by omega) (F_hL__k_1_) (vp_in_nI (by omega) (by omega)) (fun g106 h106 e_g106 e_h106 => ?_)
            try dsimp only at e_g106
            have F_h106_k : h106 k = .inr (8, [.int (nI l), .ref (k + 1), .ref (k + 2), .ref (k + 3), .ref (k + 4), .ref (k + 5), .ref (k + 6), .int (nI o), .int th]) := by rw [e_h106, va_up_neq (nek1 (a := 1) (by decide))]; exact F_hL_k
            have F_h106__k_1_ : h106 (k + 1) = .inl (1, (l + 1), .inl g106) := by rw [e_h106]; exact va_up_eq
            have F_h106__k_2_ : h106 (k + 2) = .inl (1, (l + 1), .inl rL) := by rw [e_h106, va_up_neq (nek (a := 2) (b := 1) (by decide))]; exact F_hL__k_2_
            have F_h106_q : h106 q = .inl (1, (l + 1), .inl cA) := by rw [e_h106, va_up_neq (by omega)]; exact F_hL_q
            have FR_h106 : Fr h h106 (fun j => j = k ∨ j = k + 1 ∨ j = k + 2) := FR_hL.zup e_h106 (by first | exact rfl | exact Or.inl rfl | exact Or.inr rfl | exact ⟨by decide, by decide⟩ | decide | omega)
            refine WX.s1 rfl rfl ?_
            refine WX.get1 (fs := [.int (nI l), .ref (k + 1), .ref (k + 2), .ref (k + 3), .ref (k + 4), .ref (k + 5), .ref (k + 6), .int (nI o), .int th]) rfl (by omega) (F_h106_k) rfl ?_
            refine WX.s1 rfl rfl ?_
            refine WX.s1 rfl rfl ?_
            refine WX.s1 rfl rfl ?_
            refine WX.div rfl (nI_ne0 ht0 (by omega)) ?_
            rw [pk_rem (by omega) ht0 (by omega)]
            refine WX.iastN rfl (by omega) (F_h106__k_2_) (vp_in_nI (by omega) (by omega)) (fun g117 h117 e_g117 e_h117 => ?_)
            try dsimp only at e_g117
            have F_h117_k : h117 k = .inr (8, [.int (nI l), .ref (k + 1), .ref (k + 2), .ref (k + 3), .ref (k + 4), .ref (k + 5), .ref (k + 6), .int (nI o), .int th]) := by rw [e_h117, va_up_neq (nek1 (a := 2) (by decide))]; exact F_h106_k
            have F_h117__k_1_ : h117 (k + 1) = .inl (1, (l + 1), .inl g106) := by rw [e_h117, va_up_neq (nek (a := 1) (b := 2) (by decide))]; exact F_h106__k_1_
            have F_h117__k_2_ : h117 (k + 2) = .inl (1, (l + 1), .inl g117) := by rw [e_h117]; exact va_up_eq
            have F_h117_q : h117 q = .inl (1, (l + 1), .inl cA) := by rw [e_h117, va_up_neq (by omega)]; exact F_h106_q
            have FR_h117 : Fr h h117 (fun j => j = k ∨ j = k + 1 ∨ j = k + 2) := FR_h106.zup e_h117 (by first | exact rfl | exact Or.inl rfl | exact Or.inr rfl | exact ⟨by decide, by decide⟩ | decide | omega)
            refine WX.s1 rfl rfl ?_
            refine WX.s1 rfl rfl ?_
            refine WX.get1 (fs := [.int (nI l), .ref (k + 1), .ref (k + 2), .ref (k + 3), .ref (k + 4), .ref (k + 5), .ref (k + 6), .int (nI o), .int th]) rfl (by omega) (F_h117_k) rfl ?_
            refine WX.s1 rfl rfl ?_
            refine WX.iald1 rfl (Or.inl (by omega)) (F_h117__k_1_) (vp_in_nI (by omega) (by omega)) ?_
            rw [nI_clamp (by omega), e_g106, nI_clamp (by omega), pk_us, hval]
            refine WX.s1 (S' := [.int (if 0 ≤ (qI ((u0F cnt (sumN cnt (l + 1)) o) i)) then (qI ((u0F cnt (sumN cnt (l + 1)) o) i)) else 0 - (qI ((u0F cnt (sumN cnt (l + 1)) o) i))), .int (nI (2 ^ o) - nI (sumN (fun s => massU ((u0F cnt (sumN cnt (l + 1)) o) s)) i))]) rfl rfl ?_
            rw [qI_abs (by have := hu0 i (by omega); omega)]
            refine WX.s1 (S' := [.int ((nI (2 ^ o) - nI (sumN (fun s => massU ((u0F cnt (sumN cnt (l + 1)) o) s)) i)) - (nI (massU ((u0F cnt (sumN cnt (l + 1)) o) i))))]) rfl rfl ?_
            rw [lk_step]
            refine WX.s1 (L' := [(0, .ref k), (1, .ref q), (2, .int (nI o)), (3, .int (nI (sumN cnt (l + 1)))), (4, .int (nI (2 ^ o) - nI ((sumN (fun s => massU ((u0F cnt (sumN cnt (l + 1)) o) s)) i) + massU ((u0F cnt (sumN cnt (l + 1)) o) i)))), (5, .int (nI i)), (6, .int (nI (cnt i * 2 ^ o)))]) rfl rfl ?_
            refine WX.s1 (L' := [(0, .ref k), (1, .ref q), (2, .int (nI o)), (3, .int (nI (sumN cnt (l + 1)))), (4, .int (nI (2 ^ o) - nI ((sumN (fun s => massU ((u0F cnt (sumN cnt (l + 1)) o) s)) i) + massU ((u0F cnt (sumN cnt (l + 1)) o) i)))), (5, .int ((nI i) + 1)), (6, .int (nI (cnt i * 2 ^ o)))]) rfl rfl ?_
            rw [show ((nI i) + 1) = nI (i + 1) from nI_add i 1]
            refine WX.s1 rfl rfl ?_
            refine WX.keep (y := 100) [0, 1, 2, 3, 4, 5] (show ([0, 1, 2, 3, 4, 5, 6] : List Nat).Nodup by decide) rfl ?_
            refine ih (i + 1) h117 g106 g117 (by omega) FR_h117 F_h117_k F_h117__k_1_ F_h117__k_2_ (fun s hs => ?_) (fun s hs => ?_)
            · rw [e_g106, nI_clamp (by omega)]
              by_cases z : s = i
              · rw [z, pk_us]; exact hval
              · rw [pk_un z]; exact hP s (by omega)
            · rw [e_g117, nI_clamp (by omega)]
              by_cases z : s = i
              · rw [z, pk_us]
              · rw [pk_un z]; exact hR s (by omega)
      have h9 := lp47 (l + 1) 0 h36 pA rA (by omega) FR_h36 F_h36_k F_h36__k_1_ F_h36__k_2_ (fun s hs => absurd hs (Nat.not_lt_zero s)) (fun s hs => absurd hs (Nat.not_lt_zero s))
      rw [show nI (2 ^ o) - nI (sumN (fun s => massU ((u0F cnt (sumN cnt (l + 1)) o) s)) 0) = nI (2 ^ o) from nI_subN (Nat.zero_le _)] at h9
      exact h9
    | succ tt ih =>
      intro i hi
      refine WX.s1 rfl rfl ?_
      refine WX.s1 rfl rfl ?_
      refine WX.get1 (fs := [.int (nI l), .ref (k + 1), .ref (k + 2), .ref (k + 3), .ref (k + 4), .ref (k + 5), .ref (k + 6), .int od, .int th]) rfl (by omega) (F_h_k) rfl ?_
      refine WX.icmp rfl (fun c_11 => absurd c_11 (fun zz_ => absurd ((nI_ltI (a := l) (b := i) (by omega) (by omega)).mp zz_) (Nat.not_lt.mpr (by omega)))) (fun c_11 => ?_)
      clear c_11
      refine WX.s1 rfl rfl ?_
      refine WX.s1 rfl rfl ?_
      refine WX.len1 rfl (Or.inl ⟨by omega, by decide⟩) (F_h_q) ?_
      refine WX.icmp rfl (fun c_18 => absurd c_18 (fun zz_ => absurd ((nI_leI (a := l + 1) (b := i) (by omega) (by omega)).mp zz_) (Nat.not_le.mpr (by omega)))) (fun c_18 => ?_)
      clear c_18
      refine WX.s1 rfl rfl ?_
      refine WX.s1 rfl rfl ?_
      refine WX.s1 rfl rfl ?_
      refine WX.iald1 rfl (Or.inl (by omega)) (F_h_q) (vp_in_nI (by omega) (by omega)) ?_
      rw [nI_clamp (by omega), hcA i (by omega)]
      refine WX.s1 (S' := [.int ((nI (sumN cnt i)) + (nI (cnt i)))]) rfl rfl ?_
      rw [show ((nI (sumN cnt i)) + (nI (cnt i))) = nI (sumN cnt i + cnt i) from nI_add (sumN cnt i) (cnt i)]
      refine WX.s1 (L' := [(0, .ref k), (1, .ref q), (2, .int (nI o)), (3, .int (nI (sumN cnt i + cnt i))), (4, .int (nI i))]) rfl rfl ?_
      refine WX.s1 (L' := [(0, .ref k), (1, .ref q), (2, .int (nI o)), (3, .int (nI (sumN cnt i + cnt i))), (4, .int ((nI i) + 1))]) rfl rfl ?_
      rw [show ((nI i) + 1) = nI (i + 1) from nI_add i 1]
      refine WX.s1 rfl rfl ?_
      exact ih (i + 1) (by omega)
  exact lp5 (l + 1) 0 (by omega)
