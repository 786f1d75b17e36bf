/-! what a row of symbols costs: rowBits -/
theorem RowC.cons {u : Nat → Nat} {N o s c p q W : Nat} {l : List Nat} (h : RowC u N o l c p) (hn : IsNx u N o s p q W) : RowC u N o (s :: l) (c + W) q := by
  cases l with
  | nil => exact h.elim
  | cons t r => exact ⟨c, p, W, h, hn, rfl⟩
theorem drop_get {l : List Nat} {z : Nat} (h : z < l.length) : l.drop z = l.getD z 0 :: l.drop (z + 1) := by
  rw [List.getD_eq_getElem?_getD, List.getElem?_eq_getElem h]
  exact List.drop_eq_getElem_cons h
theorem drop_last {l : List Nat} {z : Nat} (h : z + 1 = l.length) : l.drop z = [l.getD z 0] := by
  rw [drop_get (by omega), show l.drop (z + 1) = [] from List.drop_eq_nil_of_le (by omega)]
theorem nx_lt {u : Nat → Nat} {N o s st p W : Nat} (h : IsNx u N o s st p W) : p < 2 ^ o ∧ W ≤ o := by
  obtain ⟨a, -, g, -, -, -, e, -⟩ := h
  exact ⟨a, by omega⟩
theorem nI_m2 {n : Nat} (h : 1 ≤ n) : nI n - 2 = qI (n - 1) := by
  obtain ⟨k, rfl⟩ : ∃ k, n = k + 1 := ⟨n - 1, by omega⟩
  rw [show k + 1 - 1 = k by omega, ← nI_m1, ← nI_1]
  rw [show (2 : Int32) = 1 + 1 by decide, ← Int32.sub_sub, Int32.add_sub_cancel]
set_option maxRecDepth 20000 in
theorem x_rowBits {d n s : Nat} {h : Nat → aE} {k l o M y NS : Nat} {th : Int32} {yA : Nat → Int32} {u : Nat → Nat} {ss : List Nat}  (hk : k + 6 < n) (hl : l < 64) (ho5 : o = 0 ∨ 5 ≤ o) (ho : o ≤ 9) (hM : 2 ^ o ≤ M) (hMb : M < 2 ^ 20) (hS : mSum u (l + 1) = 2 ^ o) (hA : ShS h k l M o u) (hyn : y < n) (hNS : NS < 2 ^ 20) (hle : ss.length ≤ NS) (h0 : 1 ≤ ss.length) (hss : ∀ i, i < ss.length → yA i = nI (ss.getD i 0) ∧ ss.getD i 0 ≤ l ∧ massU (u (ss.getD i 0)) ≠ 0) (F_h_k : h k = .inr (8, [.int (nI l), .ref (k + 1), .ref (k + 2), .ref (k + 3), .ref (k + 4), .ref (k + 5), .ref (k + 6), .int (nI o), .int th])) (F_h_y : h y = .inl (1, NS, .inl yA))  {Ψ : Option Value → aH → Prop} (kk : ∀ c p, RowC u (l + 1) o ss c p → Ψ (some (.int (nI c))) (n, s, h)) : WO (mM (d + 2)) 110 [.ref k, .ref y, .int (nI ss.length)] (n, s, h) Ψ := by
  refine WO.of (Nat.le_of_ble_eq_true rfl) ?_
  show WX (lk tX8_rowBits) (mM (d + 1)) Ψ 0 [(0, .ref k), (1, .ref y), (2, .int (nI ss.length))] [] (n, s, h)
  refine WX.s1 rfl rfl ?_
  refine WX.s1 rfl rfl ?_
  refine WX.icmp rfl (fun c_2 => absurd c_2 (fun zz_ => absurd ((nI_ltI (a := ss.length) (b := 1) (by omega) (by omega)).mp zz_) (Nat.not_lt.mpr (by omega)))) (fun c_2 => ?_)
  clear c_2
  refine WX.s1 rfl rfl ?_
  refine WX.s1 rfl rfl ?_
  refine WX.len1 rfl (Or.inl ⟨by omega, by decide⟩) (F_h_y) ?_
  refine WX.icmp rfl (fun c_8 => ?_) (fun c_8 => absurd ((nI_leI (a := ss.length) (b := NS) (by omega) (by omega)).mpr (by omega)) c_8)
  clear c_8
  refine WX.s1 rfl rfl ?_
  refine WX.get1 (fs := [.int (nI l), .ref (k + 1), .ref (k + 2), .ref (k + 3), .ref (k + 4), .ref (k + 5), .ref (k + 6), .int (nI o), .int th]) rfl (by omega) (F_h_k) rfl ?_
  refine WX.s1 (L' := [(0, .ref k), (1, .ref y), (2, .int (nI ss.length)), (3, .int (nI o))]) rfl rfl ?_
  refine WX.s1 rfl rfl ?_
  refine WX.s1 rfl rfl ?_
  refine WX.s1 rfl rfl ?_
  refine WX.s1 rfl rfl ?_
  refine WX.s1 (S' := [.int ((nI ss.length) - 1), .ref y, .ref k]) rfl rfl ?_
  rw [nI_pm1 h0]
  refine WX.iald1 rfl (Or.inl (by omega)) (F_h_y) (vp_in_nI (by omega) (by omega)) ?_
  rw [nI_clamp (by omega), (hss (ss.length - 1) (by omega)).1]
  refine WX.callC (vs := [.ref k, .int (nI (ss.getD (ss.length - 1) 0))]) rfl rfl rfl (Nat.le_of_ble_eq_true rfl) (rcv_ok (by omega) F_h_k) ?_
  refine x_lowest hk hl ho5 ho hM hMb hS hA (hss _ (by omega)).2.1 (hss _ (by omega)).2.2 F_h_k (fun p0 hp0 => ?_)
  show WX _ _ _ 27 [(0, .ref k), (1, .ref y), (2, .int (nI ss.length)), (3, .int (nI o))] [.int (nI p0)] (n, s, h)
  refine WX.s1 (L' := [(0, .ref k), (1, .ref y), (2, .int (nI ss.length)), (3, .int (nI o)), (4, .int (nI p0))]) rfl rfl ?_
  refine WX.s1 rfl rfl ?_
  refine WX.s1 rfl rfl ?_
  refine WX.s1 (S' := [.int ((nI ss.length) - 2)]) rfl rfl ?_
  rw [nI_m2 h0]
  refine WX.s1 (L' := [(0, .ref k), (1, .ref y), (2, .int (nI ss.length)), (3, .int (nI o)), (4, .int (nI p0)), (5, .int (qI (ss.length - 1)))]) rfl rfl ?_
  have lp : ∀ (z c p : Nat), z < ss.length → c ≤ 9 * (ss.length - z) → p < 2 ^ o → RowC u (l + 1) o (ss.drop z) c p → WX (lk tX8_rowBits) (mM (d + 1)) Ψ 34 [(0, .ref k), (1, .ref y), (2, .int (nI ss.length)), (3, .int (nI c)), (4, .int (nI p)), (5, .int (qI z))] [] (n, s, h) := by
    intro z
    induction z with
    | zero =>
      intro c p hz hc hp hR
      rw [qI0]
      refine WX.s1 rfl rfl ?_
      refine WX.if_ rfl (fun c_36 => ?_) (fun c_36 => absurd (by decide) c_36)
      refine WX.s1 rfl rfl ?_
      exact WX.ret1 rfl (kk c p hR)
    | succ z ih =>
      intro c p hz hc hp hR
      rw [qIs]
      obtain ⟨hy1, hy2, hy3⟩ := hss z (by omega)
      refine WX.s1 rfl rfl ?_
      refine WX.if_ rfl (fun c_36 => absurd c_36 (fun zz_ => absurd ((nI_ltI (a := z) (b := 0) (by omega) (by omega)).mp zz_) (Nat.not_lt.mpr (by omega)))) (fun c_36 => ?_)
      clear c_36
      refine WX.s1 rfl rfl ?_
      refine WX.s1 rfl rfl ?_
      refine WX.s1 rfl rfl ?_
      refine WX.iald1 rfl (Or.inl (by omega)) (F_h_y) (vp_in_nI (by omega) (by omega)) ?_
      rw [nI_clamp (by omega), hy1]
      refine WX.s1 rfl rfl ?_
      refine WX.callC (vs := [.ref k, .int (nI (ss.getD z 0)), .int (nI p)]) rfl rfl rfl (Nat.le_of_ble_eq_true rfl) (rcv_ok (by omega) F_h_k) ?_
      refine x_width hk hl ho5 ho hM hMb hS hA hy2 hy3 hp F_h_k (fun V p2 hN => ?_)
      obtain ⟨hp2, hV⟩ := nx_lt hN
      show WX _ _ _ 49 [(0, .ref k), (1, .ref y), (2, .int (nI ss.length)), (3, .int (nI c)), (4, .int (nI p)), (5, .int (nI z))] [.int (nI V)] (n, s, h)
      refine WX.s1 (L' := [(0, .ref k), (1, .ref y), (2, .int (nI ss.length)), (3, .int (nI c)), (4, .int (nI p)), (5, .int (nI z)), (6, .int (nI V))]) rfl rfl ?_
      refine WX.s1 rfl rfl ?_
      refine WX.s1 rfl rfl ?_
      refine WX.s1 (S' := [.int ((nI c) + (nI V))]) rfl rfl ?_
      rw [show ((nI c) + (nI V)) = nI (c + V) from nI_add c V]
      refine WX.s1 (L' := [(0, .ref k), (1, .ref y), (2, .int (nI ss.length)), (3, .int (nI (c + V))), (4, .int (nI p)), (5, .int (nI z)), (6, .int (nI V))]) rfl rfl ?_
      refine WX.s1 rfl rfl ?_
      refine WX.s1 rfl rfl ?_
      refine WX.s1 rfl rfl ?_
      refine WX.iald1 rfl (Or.inl (by omega)) (F_h_y) (vp_in_nI (by omega) (by omega)) ?_
      rw [nI_clamp (by omega), hy1]
      refine WX.s1 rfl rfl ?_
      refine WX.s1 rfl rfl ?_
      refine WX.callC (vs := [.ref k, .int (nI (ss.getD z 0)), .int (nI p), .int (nI V)]) rfl rfl rfl (Nat.le_of_ble_eq_true rfl) (rcv_ok (by omega) F_h_k) ?_
      refine x_before hk hl ho5 ho hM hMb hS hA hy2 hy3 hp hN F_h_k ?_
      show WX _ _ _ 68 [(0, .ref k), (1, .ref y), (2, .int (nI ss.length)), (3, .int (nI (c + V))), (4, .int (nI p)), (5, .int (nI z)), (6, .int (nI V))] [.int (nI p2)] (n, s, h)
      refine WX.s1 (L' := [(0, .ref k), (1, .ref y), (2, .int (nI ss.length)), (3, .int (nI (c + V))), (4, .int (nI p2)), (5, .int (nI z)), (6, .int (nI V))]) rfl rfl ?_
      refine WX.s1 (L' := [(0, .ref k), (1, .ref y), (2, .int (nI ss.length)), (3, .int (nI (c + V))), (4, .int (nI p2)), (5, .int ((nI z) + (-1))), (6, .int (nI V))]) rfl rfl ?_
      rw [show (nI z) + (-1) = qI z from qI_dec z]
      refine WX.s1 rfl rfl ?_
      refine WX.keep (y := 110) [0, 1, 2, 3, 4, 5] (show ([0, 1, 2, 3, 4, 5, 6] : List Nat).Nodup by decide) rfl ?_
      refine ih (c + V) p2 (by omega) (by omega) hp2 ?_
      rw [drop_get (show z < ss.length by omega)]
      exact hR.cons hN
  refine lp (ss.length - 1) o p0 (by omega) (by omega) hp0.1 ?_
  rw [drop_last (by omega)]
  exact ⟨hp0, rfl⟩
