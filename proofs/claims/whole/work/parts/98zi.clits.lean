/-! the literals, the class's: which way -/
def hpF (n : Nat) : Nat := if n < 32 then 1 else if n < 4096 then 2 else 3
def chd (n : Nat) : Nat := if n < 1024 then 3 else 4
def shpI (n st : Nat) : Int32 := if n < 1024 then (if st < 1024 then 0 else -1) else 2
abbrev LC : Type := Nat × Nat × Nat
def lc1 (ls : List Nat) : LC := if (ls ≠ [] ∧ ∀ s, s ∈ ls → s = ls.getD 0 0) ∧ hpF ls.length + 1 < hpF ls.length + ls.length then (1, hpF ls.length + 1, 0) else (0, hpF ls.length + ls.length, 0)
def lcS (b : LC) (k st n : Nat) : LC := if (n < 1024 → st < 1024) ∧ chd n + st < b.2.1 then (k, chd n + st, st) else b
def lc3 (tC : Option Le) (ls : List Nat) (b : LC) : LC := match tC with
  | none => b
  | some t => if ∀ s, s ∈ ls → t.1 s ≠ 0 then lcS b 3 (tob t.1 ls) ls.length else b
def lc2 (y : Option (List Nat)) (L : Nat → Nat) (ls : List Nat) (b : LC) : LC := match y with
  | none => b
  | some y => lcS b 2 (y.length + tob L ls) ls.length
theorem alk_cnt {ls : List Nat} (h : ls ≠ []) : (∀ s, s ∈ ls → s = ls.getD 0 0) ↔ ls.count (ls.getD 0 0) = ls.length := by
  constructor
  · intro z; exact List.count_eq_length.mpr (fun b hb => (z b hb).symm)
  · intro z s hs; exact (List.count_eq_length.mp z s hs).symm
theorem tob_le {L : Nat → Nat} {ls : List Nat} (hl : ∀ s, s < 256 → L s ≤ 11) (h : LsOk ls) : tob L ls ≤ 11020 := by
  have a : ∀ f k, f + k ≤ ls.length → sumN (fun i => L (ls.getD (f + i) 0)) k ≤ 11 * k := by
    intro f k
    induction k with
    | zero => intro _; exact Nat.le_refl _
    | succ k ih =>
      intro hk
      have a := ih (by omega)
      have b := hl _ (h.1 _ (getD_mem (show f + k < ls.length by omega)))
      show sumN _ k + L (ls.getD (f + k) 0) ≤ _
      omega
  have hn := h.2
  unfold tob
  split
  · have q := a 0 ls.length (by omega)
    unfold stb
    rw [Nat.sub_zero]
    omega
  · have q1 := a 0 ((ls.length + 3) / 4) (by omega)
    have q2 := a ((ls.length + 3) / 4) (2 * ((ls.length + 3) / 4) - (ls.length + 3) / 4) (by omega)
    have q3 := a (2 * ((ls.length + 3) / 4)) (3 * ((ls.length + 3) / 4) - 2 * ((ls.length + 3) / 4)) (by omega)
    have q4 := a (3 * ((ls.length + 3) / 4)) (ls.length - 3 * ((ls.length + 3) / 4)) (by omega)
    unfold frb stb
    rw [Nat.sub_zero]
    omega
set_option maxRecDepth 20000 in
theorem x_lpl {d n s : Nat} {h : Nat → aE} {ls : List Nat} {ki by_ sh be : Int32} (hn : 190 ≤ n) (hlen : ls.length ≤ 8000) (F_h_89 : h 89 = .inr (5, [.ref 90, .ref 91, .int (nI ls.length), .ref 92, .ref 96, .ref 100, .ref 67, .ref 106, .int ki, .int by_, .int sh, .int be]))  {Ψ : Option Value → aH → Prop} (kk : Ψ (some (.int (nI (hpF ls.length)))) (n, s, h)) : WO (mM (d + 1)) 58 [.ref 89] (n, s, h) Ψ := by
  refine WO.of (Nat.le_of_ble_eq_true rfl) ?_
  have FR_h : Fr h h (fun j => False) := Fr.rf
  show WX (lk tX5_plainHead) (mM d) Ψ 0 [(0, .ref 89)] [] (n, s, h)
  refine WX.s1 rfl rfl ?_
  refine WX.get1 (fs := [.ref 90, .ref 91, .int (nI ls.length), .ref 92, .ref 96, .ref 100, .ref 67, .ref 106, .int ki, .int by_, .int sh, .int be]) rfl (ltN hn (by decide)) (F_h_89) rfl ?_
  refine WX.s1 rfl rfl ?_
  refine WX.icmp rfl (fun c_6 => ?_) (fun c_6 => ?_)
  · skip
    have n_6 : 32 ≤ ls.length := (nI_leI (a := 32) (b := ls.length) (by omega) (by omega)).mp c_6
    refine WX.s1 rfl rfl ?_
    refine WX.get1 (fs := [.ref 90, .ref 91, .int (nI ls.length), .ref 92, .ref 96, .ref 100, .ref 67, .ref 106, .int ki, .int by_, .int sh, .int be]) rfl (ltN hn (by decide)) (F_h_89) rfl ?_
    refine WX.s1 rfl rfl ?_
    refine WX.icmp rfl (fun c_18 => ?_) (fun c_18 => ?_)
    · skip
      have n_18 : 4096 ≤ ls.length := (nI_leI (a := 4096) (b := ls.length) (by omega) (by omega)).mp c_18
      refine WX.s1 rfl rfl ?_
      rw [show hpF ls.length = 3 by unfold hpF; rw [if_neg (by omega), if_neg (by omega)]] at kk
      exact WX.ret1 rfl kk
    · skip
      have n_18 : ls.length < 4096 := Nat.lt_of_not_le (fun zz_ => c_18 ((nI_leI (a := 4096) (b := ls.length) (by omega) (by omega)).mpr zz_))
      refine WX.s1 rfl rfl ?_
      refine WX.s1 rfl rfl ?_
      rw [show hpF ls.length = 2 by unfold hpF; rw [if_neg (by omega), if_pos n_18]] at kk
      exact WX.ret1 rfl kk
  · skip
    have n_6 : ls.length < 32 := Nat.lt_of_not_le (fun zz_ => c_6 ((nI_leI (a := 32) (b := ls.length) (by omega) (by omega)).mpr zz_))
    refine WX.s1 rfl rfl ?_
    rw [show hpF ls.length = 1 from if_pos n_6] at kk
    exact WX.ret1 rfl kk
set_option maxRecDepth 20000 in
theorem x_lsb {d n s : Nat} {h : Nat → aE} {q : Nat} {ls : List Nat} {L : Nat → Nat} {lA yA : Nat → Int32} {tp th ki by_ sh be : Int32} (hn : 190 ≤ n) (hq : q + 3 < n) (hL : ∀ s, s < 256 → lA s = nI (L s) ∧ L s ≤ 11) (hls : LsOk ls) (hy : ∀ i, i < ls.length → ls.getD i 0 < 256 ∧ yA i = sb_b (ls.getD i 0)) (F_h_89 : h 89 = .inr (5, [.ref 90, .ref 91, .int (nI ls.length), .ref 92, .ref 96, .ref 100, .ref 67, .ref 106, .int ki, .int by_, .int sh, .int be])) (F_h_90 : h 90 = .inl (0, 8000, .inl yA)) (F_h_q : h q = .inr (0, [.ref (q + 1), .ref (q + 2), .ref (q + 3), .int tp, .int th])) (F_h__q_1_ : h (q + 1) = .inl (1, 256, .inl lA))  {Ψ : Option Value → aH → Prop} (kk : Ψ (some (.int (nI (tob L ls)))) (n, s, h)) : WO (mM (d + 2)) 60 [.ref 89, .ref q] (n, s, h) Ψ := by
  refine WO.of (Nat.le_of_ble_eq_true rfl) ?_
  have FR_h : Fr h h (fun j => False) := Fr.rf
  have hlen := hls.2
  show WX (lk tX5_streamBytes) (mM (d + 1)) Ψ 0 [(0, .ref 89), (1, .ref q)] [] (n, s, h)
  refine WX.s1 rfl rfl ?_
  refine WX.get1 (fs := [.ref 90, .ref 91, .int (nI ls.length), .ref 92, .ref 96, .ref 100, .ref 67, .ref 106, .int ki, .int by_, .int sh, .int be]) rfl (by omega) (F_h_89) rfl ?_
  refine WX.s1 rfl rfl ?_
  refine WX.icmp rfl (fun c_7 => ?_) (fun c_7 => ?_)
  · skip
    have n_7 : 1024 ≤ ls.length := (nI_leI (a := 1024) (b := ls.length) (by omega) (by omega)).mp c_7
    refine WX.s1 rfl rfl ?_
    refine WX.get1 (fs := [.ref 90, .ref 91, .int (nI ls.length), .ref 92, .ref 96, .ref 100, .ref 67, .ref 106, .int ki, .int by_, .int sh, .int be]) rfl (by omega) (F_h_89) rfl ?_
    refine WX.s1 rfl rfl ?_
    refine WX.s1 (S' := [.int ((nI ls.length) + 3)]) rfl rfl ?_
    rw [show ((nI ls.length) + 3) = nI (ls.length + 3) from nI_add ls.length 3]
    refine WX.s1 rfl rfl ?_
    refine WX.div rfl (by decide) ?_
    rw [show nI (ls.length + 3) / 4 = nI ((ls.length + 3) / 4) from pk_div (by omega) (by decide) (by decide)]
    refine WX.s1 (L' := [(0, .ref 89), (1, .ref q), (2, .int (nI ((ls.length + 3) / 4)))]) rfl rfl ?_
    refine WX.s1 rfl rfl ?_
    refine WX.s1 (L' := [(0, .ref 89), (1, .ref q), (2, .int (nI ((ls.length + 3) / 4))), (3, .int 6)]) rfl rfl ?_
    refine WX.s1 rfl rfl ?_
    refine WX.s1 (L' := [(0, .ref 89), (1, .ref q), (2, .int (nI ((ls.length + 3) / 4))), (3, .int 6), (4, .int 0)]) rfl rfl ?_
    refine WX.s1 rfl rfl ?_
    refine WX.s1 rfl rfl ?_
    refine WX.icmp rfl (fun c_42 => absurd c_42 (by decide)) (fun c_42 => ?_)
    clear c_42
    refine WX.s1 rfl rfl ?_
    refine WX.s1 rfl rfl ?_
    refine WX.s1 rfl rfl ?_
    refine WX.get1 (fs := [.ref 90, .ref 91, .int (nI ls.length), .ref 92, .ref 96, .ref 100, .ref 67, .ref 106, .int ki, .int by_, .int sh, .int be]) rfl (by omega) (F_h_89) rfl ?_
    refine WX.s1 rfl rfl ?_
    refine WX.s1 rfl rfl ?_
    refine WX.s1 (S' := [.int (0 * (nI ((ls.length + 3) / 4))), .ref 90, .ref q, .int 6]) rfl rfl ?_
    rw [show (0 * (nI ((ls.length + 3) / 4))) = nI (0 * ((ls.length + 3) / 4)) from (Int32.ofNat_mul 0 ((ls.length + 3) / 4)).symm]
    refine WX.s1 rfl rfl ?_
    refine WX.s1 rfl rfl ?_
    refine WX.s1 (S' := [.int (0 + 1), .int (nI (0 * ((ls.length + 3) / 4))), .ref 90, .ref q, .int 6]) rfl rfl ?_
    rw [show ((0 : Int32) + 1) = 1 from rfl]
    refine WX.s1 rfl rfl ?_
    refine WX.s1 (S' := [.int (1 * (nI ((ls.length + 3) / 4))), .int (nI (0 * ((ls.length + 3) / 4))), .ref 90, .ref q, .int 6]) rfl rfl ?_
    rw [show (1 * (nI ((ls.length + 3) / 4))) = nI (1 * ((ls.length + 3) / 4)) from (Int32.ofNat_mul 1 ((ls.length + 3) / 4)).symm]
    refine WX.s1 rfl rfl ?_
    refine WX.get1 (fs := [.ref 90, .ref 91, .int (nI ls.length), .ref 92, .ref 96, .ref 100, .ref 67, .ref 106, .int ki, .int by_, .int sh, .int be]) rfl (by omega) (F_h_89) rfl ?_
    refine WX.s1 (S' := [.int (if (nI ls.length) < (nI (1 * ((ls.length + 3) / 4))) then (nI ls.length) else (nI (1 * ((ls.length + 3) / 4)))), .int (nI (0 * ((ls.length + 3) / 4))), .ref 90, .ref q, .int 6]) rfl rfl ?_
    rw [nI_min2 (a := 1 * ((ls.length + 3) / 4)) (b := ls.length) (by omega) (by omega) (by omega)]
    refine WX.callC (vs := [.ref q, .ref 90, .int (nI (0 * ((ls.length + 3) / 4))), .int (nI (1 * ((ls.length + 3) / 4)))]) rfl rfl rfl (Nat.le_of_ble_eq_true rfl) (rcv_ok (by omega) F_h_q) ?_
    refine x_cstB (by omega) (by omega) hL hy (by omega) (by omega) hlen (Nat.le_refl _) F_h_q F_h__q_1_ F_h_90 ?_
    rw [show sumN (fun i => L (ls.getD ((0 * ((ls.length + 3) / 4)) + i) 0)) ((1 * ((ls.length + 3) / 4)) - (0 * ((ls.length + 3) / 4))) / 8 + 1 = stb L ls (0 * ((ls.length + 3) / 4)) (1 * ((ls.length + 3) / 4)) from rfl]
    show WX _ _ _ 71 [(0, .ref 89), (1, .ref q), (2, .int (nI ((ls.length + 3) / 4))), (3, .int 6), (4, .int 0)] [.int (nI (stb L ls (0 * ((ls.length + 3) / 4)) (1 * ((ls.length + 3) / 4)))), .int 6] (n, s, h)
    refine WX.s1 (S' := [.int (6 + (nI (stb L ls (0 * ((ls.length + 3) / 4)) (1 * ((ls.length + 3) / 4)))))]) rfl rfl ?_
    rw [show (6 + (nI (stb L ls (0 * ((ls.length + 3) / 4)) (1 * ((ls.length + 3) / 4))))) = nI (6 + (stb L ls (0 * ((ls.length + 3) / 4)) (1 * ((ls.length + 3) / 4)))) from nI_add 6 (stb L ls (0 * ((ls.length + 3) / 4)) (1 * ((ls.length + 3) / 4)))]
    refine WX.s1 (L' := [(0, .ref 89), (1, .ref q), (2, .int (nI ((ls.length + 3) / 4))), (3, .int (nI (6 + (stb L ls (0 * ((ls.length + 3) / 4)) (1 * ((ls.length + 3) / 4)))))), (4, .int 0)]) rfl rfl ?_
    refine WX.s1 (L' := [(0, .ref 89), (1, .ref q), (2, .int (nI ((ls.length + 3) / 4))), (3, .int (nI (6 + (stb L ls (0 * ((ls.length + 3) / 4)) (1 * ((ls.length + 3) / 4)))))), (4, .int (0 + 1))]) rfl rfl ?_
    rw [show ((0 : Int32) + 1) = 1 from rfl]
    refine WX.s1 rfl rfl ?_
    refine WX.s1 rfl rfl ?_
    refine WX.s1 rfl rfl ?_
    refine WX.icmp rfl (fun c_42 => absurd c_42 (by decide)) (fun c_42 => ?_)
    clear c_42
    refine WX.s1 rfl rfl ?_
    refine WX.s1 rfl rfl ?_
    refine WX.s1 rfl rfl ?_
    refine WX.get1 (fs := [.ref 90, .ref 91, .int (nI ls.length), .ref 92, .ref 96, .ref 100, .ref 67, .ref 106, .int ki, .int by_, .int sh, .int be]) rfl (by omega) (F_h_89) rfl ?_
    refine WX.s1 rfl rfl ?_
    refine WX.s1 rfl rfl ?_
    refine WX.s1 (S' := [.int (1 * (nI ((ls.length + 3) / 4))), .ref 90, .ref q, .int (nI (6 + (stb L ls (0 * ((ls.length + 3) / 4)) (1 * ((ls.length + 3) / 4)))))]) rfl rfl ?_
    rw [show (1 * (nI ((ls.length + 3) / 4))) = nI (1 * ((ls.length + 3) / 4)) from (Int32.ofNat_mul 1 ((ls.length + 3) / 4)).symm]
    refine WX.s1 rfl rfl ?_
    refine WX.s1 rfl rfl ?_
    refine WX.s1 (S' := [.int (1 + 1), .int (nI (1 * ((ls.length + 3) / 4))), .ref 90, .ref q, .int (nI (6 + (stb L ls (0 * ((ls.length + 3) / 4)) (1 * ((ls.length + 3) / 4)))))]) rfl rfl ?_
    rw [show ((1 : Int32) + 1) = 2 from rfl]
    refine WX.s1 rfl rfl ?_
    refine WX.s1 (S' := [.int (2 * (nI ((ls.length + 3) / 4))), .int (nI (1 * ((ls.length + 3) / 4))), .ref 90, .ref q, .int (nI (6 + (stb L ls (0 * ((ls.length + 3) / 4)) (1 * ((ls.length + 3) / 4)))))]) rfl rfl ?_
    rw [show (2 * (nI ((ls.length + 3) / 4))) = nI (2 * ((ls.length + 3) / 4)) from (Int32.ofNat_mul 2 ((ls.length + 3) / 4)).symm]
    refine WX.s1 rfl rfl ?_
    refine WX.get1 (fs := [.ref 90, .ref 91, .int (nI ls.length), .ref 92, .ref 96, .ref 100, .ref 67, .ref 106, .int ki, .int by_, .int sh, .int be]) rfl (by omega) (F_h_89) rfl ?_
    refine WX.s1 (S' := [.int (if (nI ls.length) < (nI (2 * ((ls.length + 3) / 4))) then (nI ls.length) else (nI (2 * ((ls.length + 3) / 4)))), .int (nI (1 * ((ls.length + 3) / 4))), .ref 90, .ref q, .int (nI (6 + (stb L ls (0 * ((ls.length + 3) / 4)) (1 * ((ls.length + 3) / 4)))))]) rfl rfl ?_
    rw [nI_min2 (a := 2 * ((ls.length + 3) / 4)) (b := ls.length) (by omega) (by omega) (by omega)]
    refine WX.callC (vs := [.ref q, .ref 90, .int (nI (1 * ((ls.length + 3) / 4))), .int (nI (2 * ((ls.length + 3) / 4)))]) rfl rfl rfl (Nat.le_of_ble_eq_true rfl) (rcv_ok (by omega) F_h_q) ?_
    refine x_cstB (by omega) (by omega) hL hy (by omega) (by omega) hlen (Nat.le_refl _) F_h_q F_h__q_1_ F_h_90 ?_
    rw [show sumN (fun i => L (ls.getD ((1 * ((ls.length + 3) / 4)) + i) 0)) ((2 * ((ls.length + 3) / 4)) - (1 * ((ls.length + 3) / 4))) / 8 + 1 = stb L ls (1 * ((ls.length + 3) / 4)) (2 * ((ls.length + 3) / 4)) from rfl]
    show WX _ _ _ 71 [(0, .ref 89), (1, .ref q), (2, .int (nI ((ls.length + 3) / 4))), (3, .int (nI (6 + (stb L ls (0 * ((ls.length + 3) / 4)) (1 * ((ls.length + 3) / 4)))))), (4, .int 1)] [.int (nI (stb L ls (1 * ((ls.length + 3) / 4)) (2 * ((ls.length + 3) / 4)))), .int (nI (6 + (stb L ls (0 * ((ls.length + 3) / 4)) (1 * ((ls.length + 3) / 4)))))] (n, s, h)
    refine WX.s1 (S' := [.int ((nI (6 + (stb L ls (0 * ((ls.length + 3) / 4)) (1 * ((ls.length + 3) / 4))))) + (nI (stb L ls (1 * ((ls.length + 3) / 4)) (2 * ((ls.length + 3) / 4)))))]) rfl rfl ?_
    rw [show ((nI (6 + (stb L ls (0 * ((ls.length + 3) / 4)) (1 * ((ls.length + 3) / 4))))) + (nI (stb L ls (1 * ((ls.length + 3) / 4)) (2 * ((ls.length + 3) / 4))))) = nI (6 + (stb L ls (0 * ((ls.length + 3) / 4)) (1 * ((ls.length + 3) / 4))) + (stb L ls (1 * ((ls.length + 3) / 4)) (2 * ((ls.length + 3) / 4)))) from nI_add (6 + (stb L ls (0 * ((ls.length + 3) / 4)) (1 * ((ls.length + 3) / 4)))) (stb L ls (1 * ((ls.length + 3) / 4)) (2 * ((ls.length + 3) / 4)))]
    refine WX.s1 (L' := [(0, .ref 89), (1, .ref q), (2, .int (nI ((ls.length + 3) / 4))), (3, .int (nI (6 + (stb L ls (0 * ((ls.length + 3) / 4)) (1 * ((ls.length + 3) / 4))) + (stb L ls (1 * ((ls.length + 3) / 4)) (2 * ((ls.length + 3) / 4)))))), (4, .int 1)]) rfl rfl ?_
    refine WX.s1 (L' := [(0, .ref 89), (1, .ref q), (2, .int (nI ((ls.length + 3) / 4))), (3, .int (nI (6 + (stb L ls (0 * ((ls.length + 3) / 4)) (1 * ((ls.length + 3) / 4))) + (stb L ls (1 * ((ls.length + 3) / 4)) (2 * ((ls.length + 3) / 4)))))), (4, .int (1 + 1))]) rfl rfl ?_
    rw [show ((1 : Int32) + 1) = 2 from rfl]
    refine WX.s1 rfl rfl ?_
    refine WX.s1 rfl rfl ?_
    refine WX.s1 rfl rfl ?_
    refine WX.icmp rfl (fun c_42 => absurd c_42 (by decide)) (fun c_42 => ?_)
    clear c_42
    refine WX.s1 rfl rfl ?_
    refine WX.s1 rfl rfl ?_
    refine WX.s1 rfl rfl ?_
    refine WX.get1 (fs := [.ref 90, .ref 91, .int (nI ls.length), .ref 92, .ref 96, .ref 100, .ref 67, .ref 106, .int ki, .int by_, .int sh, .int be]) rfl (by omega) (F_h_89) rfl ?_
    refine WX.s1 rfl rfl ?_
    refine WX.s1 rfl rfl ?_
    refine WX.s1 (S' := [.int (2 * (nI ((ls.length + 3) / 4))), .ref 90, .ref q, .int (nI (6 + (stb L ls (0 * ((ls.length + 3) / 4)) (1 * ((ls.length + 3) / 4))) + (stb L ls (1 * ((ls.length + 3) / 4)) (2 * ((ls.length + 3) / 4)))))]) rfl rfl ?_
    rw [show (2 * (nI ((ls.length + 3) / 4))) = nI (2 * ((ls.length + 3) / 4)) from (Int32.ofNat_mul 2 ((ls.length + 3) / 4)).symm]
    refine WX.s1 rfl rfl ?_
    refine WX.s1 rfl rfl ?_
    refine WX.s1 (S' := [.int (2 + 1), .int (nI (2 * ((ls.length + 3) / 4))), .ref 90, .ref q, .int (nI (6 + (stb L ls (0 * ((ls.length + 3) / 4)) (1 * ((ls.length + 3) / 4))) + (stb L ls (1 * ((ls.length + 3) / 4)) (2 * ((ls.length + 3) / 4)))))]) rfl rfl ?_
    rw [show ((2 : Int32) + 1) = 3 from rfl]
    refine WX.s1 rfl rfl ?_
    refine WX.s1 (S' := [.int (3 * (nI ((ls.length + 3) / 4))), .int (nI (2 * ((ls.length + 3) / 4))), .ref 90, .ref q, .int (nI (6 + (stb L ls (0 * ((ls.length + 3) / 4)) (1 * ((ls.length + 3) / 4))) + (stb L ls (1 * ((ls.length + 3) / 4)) (2 * ((ls.length + 3) / 4)))))]) rfl rfl ?_
    rw [show (3 * (nI ((ls.length + 3) / 4))) = nI (3 * ((ls.length + 3) / 4)) from (Int32.ofNat_mul 3 ((ls.length + 3) / 4)).symm]
    refine WX.s1 rfl rfl ?_
    refine WX.get1 (fs := [.ref 90, .ref 91, .int (nI ls.length), .ref 92, .ref 96, .ref 100, .ref 67, .ref 106, .int ki, .int by_, .int sh, .int be]) rfl (by omega) (F_h_89) rfl ?_
    refine WX.s1 (S' := [.int (if (nI ls.length) < (nI (3 * ((ls.length + 3) / 4))) then (nI ls.length) else (nI (3 * ((ls.length + 3) / 4)))), .int (nI (2 * ((ls.length + 3) / 4))), .ref 90, .ref q, .int (nI (6 + (stb L ls (0 * ((ls.length + 3) / 4)) (1 * ((ls.length + 3) / 4))) + (stb L ls (1 * ((ls.length + 3) / 4)) (2 * ((ls.length + 3) / 4)))))]) rfl rfl ?_
    rw [nI_min2 (a := 3 * ((ls.length + 3) / 4)) (b := ls.length) (by omega) (by omega) (by omega)]
    refine WX.callC (vs := [.ref q, .ref 90, .int (nI (2 * ((ls.length + 3) / 4))), .int (nI (3 * ((ls.length + 3) / 4)))]) rfl rfl rfl (Nat.le_of_ble_eq_true rfl) (rcv_ok (by omega) F_h_q) ?_
    refine x_cstB (by omega) (by omega) hL hy (by omega) (by omega) hlen (Nat.le_refl _) F_h_q F_h__q_1_ F_h_90 ?_
    rw [show sumN (fun i => L (ls.getD ((2 * ((ls.length + 3) / 4)) + i) 0)) ((3 * ((ls.length + 3) / 4)) - (2 * ((ls.length + 3) / 4))) / 8 + 1 = stb L ls (2 * ((ls.length + 3) / 4)) (3 * ((ls.length + 3) / 4)) from rfl]
    show WX _ _ _ 71 [(0, .ref 89), (1, .ref q), (2, .int (nI ((ls.length + 3) / 4))), (3, .int (nI (6 + (stb L ls (0 * ((ls.length + 3) / 4)) (1 * ((ls.length + 3) / 4))) + (stb L ls (1 * ((ls.length + 3) / 4)) (2 * ((ls.length + 3) / 4)))))), (4, .int 2)] [.int (nI (stb L ls (2 * ((ls.length + 3) / 4)) (3 * ((ls.length + 3) / 4)))), .int (nI (6 + (stb L ls (0 * ((ls.length + 3) / 4)) (1 * ((ls.length + 3) / 4))) + (stb L ls (1 * ((ls.length + 3) / 4)) (2 * ((ls.length + 3) / 4)))))] (n, s, h)
    refine WX.s1 (S' := [.int ((nI (6 + (stb L ls (0 * ((ls.length + 3) / 4)) (1 * ((ls.length + 3) / 4))) + (stb L ls (1 * ((ls.length + 3) / 4)) (2 * ((ls.length + 3) / 4))))) + (nI (stb L ls (2 * ((ls.length + 3) / 4)) (3 * ((ls.length + 3) / 4)))))]) rfl rfl ?_
    rw [show ((nI (6 + (stb L ls (0 * ((ls.length + 3) / 4)) (1 * ((ls.length + 3) / 4))) + (stb L ls (1 * ((ls.length + 3) / 4)) (2 * ((ls.length + 3) / 4))))) + (nI (stb L ls (2 * ((ls.length + 3) / 4)) (3 * ((ls.length + 3) / 4))))) = nI (6 + (stb L ls (0 * ((ls.length + 3) / 4)) (1 * ((ls.length + 3) / 4))) + (stb L ls (1 * ((ls.length + 3) / 4)) (2 * ((ls.length + 3) / 4))) + (stb L ls (2 * ((ls.length + 3) / 4)) (3 * ((ls.length + 3) / 4)))) from nI_add (6 + (stb L ls (0 * ((ls.length + 3) / 4)) (1 * ((ls.length + 3) / 4))) + (stb L ls (1 * ((ls.length + 3) / 4)) (2 * ((ls.length + 3) / 4)))) (stb L ls (2 * ((ls.length + 3) / 4)) (3 * ((ls.length + 3) / 4)))]
    refine WX.s1 (L' := [(0, .ref 89), (1, .ref q), (2, .int (nI ((ls.length + 3) / 4))), (3, .int (nI (6 + (stb L ls (0 * ((ls.length + 3) / 4)) (1 * ((ls.length + 3) / 4))) + (stb L ls (1 * ((ls.length + 3) / 4)) (2 * ((ls.length + 3) / 4))) + (stb L ls (2 * ((ls.length + 3) / 4)) (3 * ((ls.length + 3) / 4)))))), (4, .int 2)]) rfl rfl ?_
    refine WX.s1 (L' := [(0, .ref 89), (1, .ref q), (2, .int (nI ((ls.length + 3) / 4))), (3, .int (nI (6 + (stb L ls (0 * ((ls.length + 3) / 4)) (1 * ((ls.length + 3) / 4))) + (stb L ls (1 * ((ls.length + 3) / 4)) (2 * ((ls.length + 3) / 4))) + (stb L ls (2 * ((ls.length + 3) / 4)) (3 * ((ls.length + 3) / 4)))))), (4, .int (2 + 1))]) rfl rfl ?_
    rw [show ((2 : Int32) + 1) = 3 from rfl]
    refine WX.s1 rfl rfl ?_
    refine WX.s1 rfl rfl ?_
    refine WX.s1 rfl rfl ?_
    refine WX.icmp rfl (fun c_42 => absurd c_42 (by decide)) (fun c_42 => ?_)
    clear c_42
    refine WX.s1 rfl rfl ?_
    refine WX.s1 rfl rfl ?_
    refine WX.s1 rfl rfl ?_
    refine WX.get1 (fs := [.ref 90, .ref 91, .int (nI ls.length), .ref 92, .ref 96, .ref 100, .ref 67, .ref 106, .int ki, .int by_, .int sh, .int be]) rfl (by omega) (F_h_89) rfl ?_
    refine WX.s1 rfl rfl ?_
    refine WX.s1 rfl rfl ?_
    refine WX.s1 (S' := [.int (3 * (nI ((ls.length + 3) / 4))), .ref 90, .ref q, .int (nI (6 + (stb L ls (0 * ((ls.length + 3) / 4)) (1 * ((ls.length + 3) / 4))) + (stb L ls (1 * ((ls.length + 3) / 4)) (2 * ((ls.length + 3) / 4))) + (stb L ls (2 * ((ls.length + 3) / 4)) (3 * ((ls.length + 3) / 4)))))]) rfl rfl ?_
    rw [show (3 * (nI ((ls.length + 3) / 4))) = nI (3 * ((ls.length + 3) / 4)) from (Int32.ofNat_mul 3 ((ls.length + 3) / 4)).symm]
    refine WX.s1 rfl rfl ?_
    refine WX.s1 rfl rfl ?_
    refine WX.s1 (S' := [.int (3 + 1), .int (nI (3 * ((ls.length + 3) / 4))), .ref 90, .ref q, .int (nI (6 + (stb L ls (0 * ((ls.length + 3) / 4)) (1 * ((ls.length + 3) / 4))) + (stb L ls (1 * ((ls.length + 3) / 4)) (2 * ((ls.length + 3) / 4))) + (stb L ls (2 * ((ls.length + 3) / 4)) (3 * ((ls.length + 3) / 4)))))]) rfl rfl ?_
    rw [show ((3 : Int32) + 1) = 4 from rfl]
    refine WX.s1 rfl rfl ?_
    refine WX.s1 (S' := [.int (4 * (nI ((ls.length + 3) / 4))), .int (nI (3 * ((ls.length + 3) / 4))), .ref 90, .ref q, .int (nI (6 + (stb L ls (0 * ((ls.length + 3) / 4)) (1 * ((ls.length + 3) / 4))) + (stb L ls (1 * ((ls.length + 3) / 4)) (2 * ((ls.length + 3) / 4))) + (stb L ls (2 * ((ls.length + 3) / 4)) (3 * ((ls.length + 3) / 4)))))]) rfl rfl ?_
    rw [show (4 * (nI ((ls.length + 3) / 4))) = nI (4 * ((ls.length + 3) / 4)) from (Int32.ofNat_mul 4 ((ls.length + 3) / 4)).symm]
    refine WX.s1 rfl rfl ?_
    refine WX.get1 (fs := [.ref 90, .ref 91, .int (nI ls.length), .ref 92, .ref 96, .ref 100, .ref 67, .ref 106, .int ki, .int by_, .int sh, .int be]) rfl (by omega) (F_h_89) rfl ?_
    refine WX.s1 (S' := [.int (if (nI ls.length) < (nI (4 * ((ls.length + 3) / 4))) then (nI ls.length) else (nI (4 * ((ls.length + 3) / 4)))), .int (nI (3 * ((ls.length + 3) / 4))), .ref 90, .ref q, .int (nI (6 + (stb L ls (0 * ((ls.length + 3) / 4)) (1 * ((ls.length + 3) / 4))) + (stb L ls (1 * ((ls.length + 3) / 4)) (2 * ((ls.length + 3) / 4))) + (stb L ls (2 * ((ls.length + 3) / 4)) (3 * ((ls.length + 3) / 4)))))]) rfl rfl ?_
    rw [nI_min (a := 4 * ((ls.length + 3) / 4)) (b := ls.length) (by omega) (by omega), show min (4 * ((ls.length + 3) / 4)) ls.length = ls.length by omega]
    refine WX.callC (vs := [.ref q, .ref 90, .int (nI (3 * ((ls.length + 3) / 4))), .int (nI ls.length)]) rfl rfl rfl (Nat.le_of_ble_eq_true rfl) (rcv_ok (by omega) F_h_q) ?_
    refine x_cstB (by omega) (by omega) hL hy (by omega) (by omega) hlen (Nat.le_refl _) F_h_q F_h__q_1_ F_h_90 ?_
    rw [show sumN (fun i => L (ls.getD ((3 * ((ls.length + 3) / 4)) + i) 0)) (ls.length - (3 * ((ls.length + 3) / 4))) / 8 + 1 = stb L ls (3 * ((ls.length + 3) / 4)) ls.length from rfl]
    show WX _ _ _ 71 [(0, .ref 89), (1, .ref q), (2, .int (nI ((ls.length + 3) / 4))), (3, .int (nI (6 + (stb L ls (0 * ((ls.length + 3) / 4)) (1 * ((ls.length + 3) / 4))) + (stb L ls (1 * ((ls.length + 3) / 4)) (2 * ((ls.length + 3) / 4))) + (stb L ls (2 * ((ls.length + 3) / 4)) (3 * ((ls.length + 3) / 4)))))), (4, .int 3)] [.int (nI (stb L ls (3 * ((ls.length + 3) / 4)) ls.length)), .int (nI (6 + (stb L ls (0 * ((ls.length + 3) / 4)) (1 * ((ls.length + 3) / 4))) + (stb L ls (1 * ((ls.length + 3) / 4)) (2 * ((ls.length + 3) / 4))) + (stb L ls (2 * ((ls.length + 3) / 4)) (3 * ((ls.length + 3) / 4)))))] (n, s, h)
    refine WX.s1 (S' := [.int ((nI (6 + (stb L ls (0 * ((ls.length + 3) / 4)) (1 * ((ls.length + 3) / 4))) + (stb L ls (1 * ((ls.length + 3) / 4)) (2 * ((ls.length + 3) / 4))) + (stb L ls (2 * ((ls.length + 3) / 4)) (3 * ((ls.length + 3) / 4))))) + (nI (stb L ls (3 * ((ls.length + 3) / 4)) ls.length)))]) rfl rfl ?_
    rw [show ((nI (6 + (stb L ls (0 * ((ls.length + 3) / 4)) (1 * ((ls.length + 3) / 4))) + (stb L ls (1 * ((ls.length + 3) / 4)) (2 * ((ls.length + 3) / 4))) + (stb L ls (2 * ((ls.length + 3) / 4)) (3 * ((ls.length + 3) / 4))))) + (nI (stb L ls (3 * ((ls.length + 3) / 4)) ls.length))) = nI (6 + (stb L ls (0 * ((ls.length + 3) / 4)) (1 * ((ls.length + 3) / 4))) + (stb L ls (1 * ((ls.length + 3) / 4)) (2 * ((ls.length + 3) / 4))) + (stb L ls (2 * ((ls.length + 3) / 4)) (3 * ((ls.length + 3) / 4))) + (stb L ls (3 * ((ls.length + 3) / 4)) ls.length)) from nI_add (6 + (stb L ls (0 * ((ls.length + 3) / 4)) (1 * ((ls.length + 3) / 4))) + (stb L ls (1 * ((ls.length + 3) / 4)) (2 * ((ls.length + 3) / 4))) + (stb L ls (2 * ((ls.length + 3) / 4)) (3 * ((ls.length + 3) / 4)))) (stb L ls (3 * ((ls.length + 3) / 4)) ls.length)]
    refine WX.s1 (L' := [(0, .ref 89), (1, .ref q), (2, .int (nI ((ls.length + 3) / 4))), (3, .int (nI (6 + (stb L ls (0 * ((ls.length + 3) / 4)) (1 * ((ls.length + 3) / 4))) + (stb L ls (1 * ((ls.length + 3) / 4)) (2 * ((ls.length + 3) / 4))) + (stb L ls (2 * ((ls.length + 3) / 4)) (3 * ((ls.length + 3) / 4))) + (stb L ls (3 * ((ls.length + 3) / 4)) ls.length)))), (4, .int 3)]) rfl rfl ?_
    refine WX.s1 (L' := [(0, .ref 89), (1, .ref q), (2, .int (nI ((ls.length + 3) / 4))), (3, .int (nI (6 + (stb L ls (0 * ((ls.length + 3) / 4)) (1 * ((ls.length + 3) / 4))) + (stb L ls (1 * ((ls.length + 3) / 4)) (2 * ((ls.length + 3) / 4))) + (stb L ls (2 * ((ls.length + 3) / 4)) (3 * ((ls.length + 3) / 4))) + (stb L ls (3 * ((ls.length + 3) / 4)) ls.length)))), (4, .int (3 + 1))]) rfl rfl ?_
    rw [show ((3 : Int32) + 1) = 4 from rfl]
    refine WX.s1 rfl rfl ?_
    refine WX.s1 rfl rfl ?_
    refine WX.s1 rfl rfl ?_
    refine WX.icmp rfl (fun c_42 => ?_) (fun c_42 => absurd (by decide) c_42)
    clear c_42
    refine WX.s1 rfl rfl ?_
    rw [show tob L ls = frb L ls from if_neg (by omega)] at kk
    unfold frb at kk
    rw [Nat.zero_mul, Nat.one_mul]
    exact WX.ret1 rfl kk
  · skip
    have n_7 : ls.length < 1024 := Nat.lt_of_not_le (fun zz_ => c_7 ((nI_leI (a := 1024) (b := ls.length) (by omega) (by omega)).mpr zz_))
    refine WX.s1 rfl rfl ?_
    refine WX.s1 rfl rfl ?_
    refine WX.get1 (fs := [.ref 90, .ref 91, .int (nI ls.length), .ref 92, .ref 96, .ref 100, .ref 67, .ref 106, .int ki, .int by_, .int sh, .int be]) rfl (by omega) (F_h_89) rfl ?_
    refine WX.s1 rfl rfl ?_
    refine WX.s1 rfl rfl ?_
    refine WX.get1 (fs := [.ref 90, .ref 91, .int (nI ls.length), .ref 92, .ref 96, .ref 100, .ref 67, .ref 106, .int ki, .int by_, .int sh, .int be]) rfl (by omega) (F_h_89) rfl ?_
    refine WX.callC (vs := [.ref q, .ref 90, .int (nI 0), .int (nI ls.length)]) rfl rfl rfl (Nat.le_of_ble_eq_true rfl) (rcv_ok (by omega) F_h_q) ?_
    refine x_cstB (by omega) (by omega) hL hy (by omega) (by omega) hlen (Nat.le_refl _) F_h_q F_h__q_1_ F_h_90 ?_
    rw [show sumN (fun i => L (ls.getD (0 + i) 0)) (ls.length - 0) / 8 + 1 = stb L ls 0 ls.length from rfl]
    show WX _ _ _ 23 [(0, .ref 89), (1, .ref q)] [.int (nI (stb L ls 0 ls.length))] (n, s, h)
    rw [show tob L ls = stb L ls 0 ls.length from if_pos n_7] at kk
    exact WX.ret1 rfl kk
set_option maxRecDepth 20000 in
theorem x_lshape {d n s : Nat} {h : Nat → aE} {ls : List Nat} {b : Nat} {ki by_ sh be : Int32} (hn : 190 ≤ n) (hlen : ls.length ≤ 8000) (hb : b < 16384) (F_h_89 : h 89 = .inr (5, [.ref 90, .ref 91, .int (nI ls.length), .ref 92, .ref 96, .ref 100, .ref 67, .ref 106, .int ki, .int by_, .int sh, .int be]))  {Ψ : Option Value → aH → Prop} (kk : Ψ (some (.int (shpI ls.length b))) (n, s, h)) : WO (mM (d + 1)) 61 [.ref 89, .int (nI b)] (n, s, h) Ψ := by
  refine WO.of (Nat.le_of_ble_eq_true rfl) ?_
  have FR_h : Fr h h (fun j => False) := Fr.rf
  show WX (lk tX5_shape) (mM d) Ψ 0 [(0, .ref 89), (1, .int (nI b))] [] (n, s, h)
  refine WX.s1 rfl rfl ?_
  refine WX.get1 (fs := [.ref 90, .ref 91, .int (nI ls.length), .ref 92, .ref 96, .ref 100, .ref 67, .ref 106, .int ki, .int by_, .int sh, .int be]) rfl (ltN hn (by decide)) (F_h_89) rfl ?_
  refine WX.s1 rfl rfl ?_
  refine WX.icmp rfl (fun c_7 => ?_) (fun c_7 => ?_)
  · skip
    have n_7 : 1024 ≤ ls.length := (nI_leI (a := 1024) (b := ls.length) (by omega) (by omega)).mp c_7
    refine WX.s1 rfl rfl ?_
    refine WX.get1 (fs := [.ref 90, .ref 91, .int (nI ls.length), .ref 92, .ref 96, .ref 100, .ref 67, .ref 106, .int ki, .int by_, .int sh, .int be]) rfl (ltN hn (by decide)) (F_h_89) rfl ?_
    refine WX.s1 rfl rfl ?_
    refine WX.icmp rfl (fun c_30 => absurd c_30 (fun zz_ => absurd ((nI_leI (a := 16384) (b := ls.length) (by omega) (by omega)).mp zz_) (Nat.not_le.mpr (by omega)))) (fun c_30 => ?_)
    clear c_30
    refine WX.s1 rfl rfl ?_
    refine WX.s1 rfl rfl ?_
    refine WX.icmp rfl (fun c_37 => absurd c_37 (fun zz_ => absurd ((nI_leI (a := 16384) (b := b) (by omega) (by omega)).mp zz_) (Nat.not_le.mpr (by omega)))) (fun c_37 => ?_)
    clear c_37
    refine WX.s1 rfl rfl ?_
    refine WX.s1 rfl rfl ?_
    rw [show shpI ls.length b = 2 from if_neg (by omega)] at kk
    exact WX.ret1 rfl kk
  · skip
    have n_7 : ls.length < 1024 := Nat.lt_of_not_le (fun zz_ => c_7 ((nI_leI (a := 1024) (b := ls.length) (by omega) (by omega)).mpr zz_))
    refine WX.s1 rfl rfl ?_
    refine WX.s1 rfl rfl ?_
    refine WX.icmp rfl (fun c_14 => ?_) (fun c_14 => ?_)
    · skip
      have n_14 : 1024 ≤ b := (nI_leI (a := 1024) (b := b) (by omega) (by omega)).mp c_14
      refine WX.s1 rfl rfl ?_
      rw [show shpI ls.length b = -1 by unfold shpI; rw [if_pos n_7, if_neg (by omega)]] at kk
      exact WX.ret1 rfl kk
    · skip
      have n_14 : b < 1024 := Nat.lt_of_not_le (fun zz_ => c_14 ((nI_leI (a := 1024) (b := b) (by omega) (by omega)).mpr zz_))
      refine WX.s1 rfl rfl ?_
      refine WX.s1 rfl rfl ?_
      rw [show shpI ls.length b = 0 by unfold shpI; rw [if_pos n_7, if_pos n_14]] at kk
      exact WX.ret1 rfl kk
set_option maxRecDepth 20000 in
theorem x_lch0 {d n s : Nat} {h : Nat → aE}      {Ψ : Option Value → aH → Prop} (kk : Ψ (some (.int 3)) (n, s, h)) : WO (mM (d + 1)) 62 [.int 0] (n, s, h) Ψ := by
  refine WO.of (Nat.le_of_ble_eq_true rfl) ?_
  have FR_h : Fr h h (fun j => False) := Fr.rf
  show WX (lk tX5_codedHead) (mM d) Ψ 0 [(0, .int 0)] [] (n, s, h)
  refine WX.s1 rfl rfl ?_
  refine WX.s1 rfl rfl ?_
  refine WX.icmp rfl (fun c_2 => absurd c_2 (by decide)) (fun c_2 => ?_)
  clear c_2
  refine WX.s1 rfl rfl ?_
  refine WX.s1 rfl rfl ?_
  exact WX.ret1 rfl kk
set_option maxRecDepth 20000 in
theorem x_lch2 {d n s : Nat} {h : Nat → aE}      {Ψ : Option Value → aH → Prop} (kk : Ψ (some (.int 4)) (n, s, h)) : WO (mM (d + 1)) 62 [.int 2] (n, s, h) Ψ := by
  refine WO.of (Nat.le_of_ble_eq_true rfl) ?_
  have FR_h : Fr h h (fun j => False) := Fr.rf
  show WX (lk tX5_codedHead) (mM d) Ψ 0 [(0, .int 2)] [] (n, s, h)
  refine WX.s1 rfl rfl ?_
  refine WX.s1 rfl rfl ?_
  refine WX.icmp rfl (fun c_2 => ?_) (fun c_2 => absurd (by decide) c_2)
  clear c_2
  refine WX.s1 rfl rfl ?_
  refine WX.s1 rfl rfl ?_
  refine WX.s1 (S' := [.int (2 + 2)]) rfl rfl ?_
  exact WX.ret1 rfl kk
set_option maxRecDepth 20000 in
theorem x_lcons {d n s : Nat} {h : Nat → aE} {q ds bt way : Nat} {ls : List Nat} {L : Nat → Nat} {lA yA : Nat → Int32} {tp th ki sh be : Int32} {st_ : Nat} (hn : 190 ≤ n) (hq : q + 3 < n) (hq2 : 91 < q) (hL : ∀ s, s < 256 → lA s = nI (L s) ∧ L s ≤ 11) (hls : LsOk ls) (hy : ∀ i, i < ls.length → ls.getD i 0 < 256 ∧ yA i = sb_b (ls.getD i 0)) (hds : ds ≤ 256) (hbt : bt < 2 ^ 30) (hst : st_ = ds + tob L ls) (F_h_89 : h 89 = .inr (5, [.ref 90, .ref 91, .int (nI ls.length), .ref 92, .ref 96, .ref 100, .ref 67, .ref 106, .int ki, .int (nI bt), .int sh, .int be])) (F_h_90 : h 90 = .inl (0, 8000, .inl yA)) (F_h_q : h q = .inr (0, [.ref (q + 1), .ref (q + 2), .ref (q + 3), .int tp, .int th])) (F_h__q_1_ : h (q + 1) = .inl (1, 256, .inl lA))  {Ψ : Option Value → aH → Prop} (kk1 : (ls.length < 1024 → st_ < 1024) ∧ chd ls.length + st_ < bt → ∀ h', Fr h h' (fun j => j = 89) → h' 89 = .inr (5, [.ref 90, .ref 91, .int (nI ls.length), .ref 92, .ref 96, .ref 100, .ref 67, .ref 106, .int (nI way), .int (nI (chd ls.length + st_)), .int (if ls.length < 1024 then 0 else 2), .int (nI st_)]) → Ψ none (n, s, h')) (kk2 : ¬ ((ls.length < 1024 → st_ < 1024) ∧ chd ls.length + st_ < bt) → Ψ none (n, s, h)) : WO (mM (d + 3)) 59 [.ref 89, .int (nI way), .ref q, .int (nI ds)] (n, s, h) Ψ := by
  refine WO.of (Nat.le_of_ble_eq_true rfl) ?_
  have FR_h : Fr h h (fun j => j = 89) := Fr.rf
  have hlen := hls.2
  have htb := tob_le (fun s hs => (hL s hs).2) hls
  show WX (lk tX5_consider) (mM (d + 2)) Ψ 0 [(0, .ref 89), (1, .int (nI way)), (2, .ref q), (3, .int (nI ds))] [] (n, s, h)
  refine WX.s1 rfl rfl ?_
  refine WX.s1 rfl rfl ?_
  refine WX.s1 rfl rfl ?_
  refine WX.callC (vs := [.ref 89, .ref q]) rfl rfl rfl (Nat.le_of_ble_eq_true rfl) (rcv_ok (by omega) F_h_89) ?_
  refine x_lsb hn (by omega) hL hls hy F_h_89 F_h_90 F_h_q F_h__q_1_ ?_
  show WX _ _ _ 6 [(0, .ref 89), (1, .int (nI way)), (2, .ref q), (3, .int (nI ds))] [.int (nI (tob L ls)), .int (nI ds)] (n, s, h)
  refine WX.s1 (S' := [.int ((nI ds) + (nI (tob L ls)))]) rfl rfl ?_
  rw [show ((nI ds) + (nI (tob L ls))) = nI (ds + tob L ls) from nI_add ds (tob L ls)]
  refine WX.s1 (L' := [(0, .ref 89), (1, .int (nI way)), (2, .ref q), (3, .int (nI ds)), (4, .int (nI (ds + tob L ls)))]) rfl rfl ?_
  rw [← hst]
  refine WX.s1 rfl rfl ?_
  refine WX.s1 rfl rfl ?_
  refine WX.callC (vs := [.ref 89, .int (nI st_)]) rfl rfl rfl (Nat.le_of_ble_eq_true rfl) (rcv_ok (by omega) F_h_89) ?_
  refine x_lshape hn hlen (by omega) F_h_89 ?_
  by_cases hn1 : ls.length < 1024
  · by_cases hs1 : st_ < 1024
    · rw [show shpI ls.length st_ = 0 by unfold shpI; rw [if_pos hn1, if_pos hs1]]
      have hchd : chd ls.length = 3 := if_pos hn1
      show WX _ _ _ 15 [(0, .ref 89), (1, .int (nI way)), (2, .ref q), (3, .int (nI ds)), (4, .int (nI st_))] [.int 0] (n, s, h)
      refine WX.s1 (L' := [(0, .ref 89), (1, .int (nI way)), (2, .ref q), (3, .int (nI ds)), (4, .int (nI st_)), (5, .int 0)]) rfl rfl ?_
      refine WX.s1 rfl rfl ?_
      refine WX.if_ rfl (fun c_19 => absurd c_19 (by decide)) (fun c_19 => ?_)
      clear c_19
      refine WX.s1 rfl rfl ?_
      refine WX.callC (vs := [.int 0]) rfl rfl rfl (Nat.le_of_ble_eq_true rfl) rfl ?_
      refine x_lch0 ?_
      show WX _ _ _ 27 [(0, .ref 89), (1, .int (nI way)), (2, .ref q), (3, .int (nI ds)), (4, .int (nI st_)), (5, .int 0)] [.int 3] (n, s, h)
      refine WX.s1 rfl rfl ?_
      refine WX.s1 (S' := [.int (3 + (nI st_))]) rfl rfl ?_
      rw [show (3 + (nI st_)) = nI (3 + st_) from nI_add 3 st_]
      refine WX.s1 rfl rfl ?_
      refine WX.get1 (fs := [.ref 90, .ref 91, .int (nI ls.length), .ref 92, .ref 96, .ref 100, .ref 67, .ref 106, .int ki, .int (nI bt), .int sh, .int be]) rfl (by omega) (F_h_89) rfl ?_
      refine WX.icmp rfl (fun c_34 => ?_) (fun c_34 => ?_)
      · skip
        have n_34 : bt ≤ (3 + st_) := (nI_leI (a := bt) (b := 3 + st_) (by omega) (by omega)).mp c_34
        exact WX.ret0 rfl (kk2 (fun z => by have := z.2; omega))
      · skip
        have n_34 : (3 + st_) < bt := Nat.lt_of_not_le (fun zz_ => c_34 ((nI_leI (a := bt) (b := 3 + st_) (by omega) (by omega)).mpr zz_))
        refine WX.s1 rfl rfl ?_
        refine WX.s1 rfl rfl ?_
        refine WX.put1 (fs := [.ref 90, .ref 91, .int (nI ls.length), .ref 92, .ref 96, .ref 100, .ref 67, .ref 106, .int ki, .int (nI bt), .int sh, .int be]) (fs' := [.ref 90, .ref 91, .int (nI ls.length), .ref 92, .ref 96, .ref 100, .ref 67, .ref 106, .int (nI way), .int (nI bt), .int sh, .int be]) rfl (by omega) (F_h_89) (Nat.le_of_ble_eq_true rfl) (rfl) rfl (fun h39 e_h39 => ?_)
        have F_h39_89 : h39 89 = .inr (5, [.ref 90, .ref 91, .int (nI ls.length), .ref 92, .ref 96, .ref 100, .ref 67, .ref 106, .int (nI way), .int (nI bt), .int sh, .int be]) := by rw [e_h39]; exact va_up_eq
        have F_h39_90 : h39 90 = .inl (0, 8000, .inl yA) := by rw [e_h39, va_up_neq (by decide)]; exact F_h_90
        have F_h39_q : h39 q = .inr (0, [.ref (q + 1), .ref (q + 2), .ref (q + 3), .int tp, .int th]) := by rw [e_h39, va_up_neq (by omega)]; exact F_h_q
        have F_h39__q_1_ : h39 (q + 1) = .inl (1, 256, .inl lA) := by rw [e_h39, va_up_neq (by omega)]; exact F_h__q_1_
        have FR_h39 : Fr h h39 (fun j => j = 89) := FR_h.zup e_h39 (by first | exact rfl | exact Or.inl rfl | exact Or.inr rfl | exact ⟨by decide, by decide⟩ | decide | omega)
        clear F_h_89 F_h_90 F_h_q F_h__q_1_ FR_h e_h39
        refine WX.s1 rfl rfl ?_
        refine WX.s1 rfl rfl ?_
        refine WX.callC (vs := [.int 0]) rfl rfl rfl (Nat.le_of_ble_eq_true rfl) rfl ?_
        refine x_lch0 ?_
        show WX _ _ _ 48 [(0, .ref 89), (1, .int (nI way)), (2, .ref q), (3, .int (nI ds)), (4, .int (nI st_)), (5, .int 0)] [.int 3, .ref 89] (n, s, h39)
        refine WX.s1 rfl rfl ?_
        refine WX.s1 (S' := [.int (3 + (nI st_)), .ref 89]) rfl rfl ?_
        rw [show (3 + (nI st_)) = nI (3 + st_) from nI_add 3 st_]
        refine WX.put1 (fs := [.ref 90, .ref 91, .int (nI ls.length), .ref 92, .ref 96, .ref 100, .ref 67, .ref 106, .int (nI way), .int (nI bt), .int sh, .int be]) (fs' := [.ref 90, .ref 91, .int (nI ls.length), .ref 92, .ref 96, .ref 100, .ref 67, .ref 106, .int (nI way), .int (nI (3 + st_)), .int sh, .int be]) rfl (by omega) (F_h39_89) (Nat.le_of_ble_eq_true rfl) (rfl) rfl (fun h51 e_h51 => ?_)
        have F_h51_89 : h51 89 = .inr (5, [.ref 90, .ref 91, .int (nI ls.length), .ref 92, .ref 96, .ref 100, .ref 67, .ref 106, .int (nI way), .int (nI (3 + st_)), .int sh, .int be]) := by rw [e_h51]; exact va_up_eq
        have F_h51_90 : h51 90 = .inl (0, 8000, .inl yA) := by rw [e_h51, va_up_neq (by decide)]; exact F_h39_90
        have F_h51_q : h51 q = .inr (0, [.ref (q + 1), .ref (q + 2), .ref (q + 3), .int tp, .int th]) := by rw [e_h51, va_up_neq (by omega)]; exact F_h39_q
        have F_h51__q_1_ : h51 (q + 1) = .inl (1, 256, .inl lA) := by rw [e_h51, va_up_neq (by omega)]; exact F_h39__q_1_
        have FR_h51 : Fr h h51 (fun j => j = 89) := FR_h39.zup e_h51 (by first | exact rfl | exact Or.inl rfl | exact Or.inr rfl | exact ⟨by decide, by decide⟩ | decide | omega)
        clear F_h39_89 F_h39_90 F_h39_q F_h39__q_1_ FR_h39 e_h51
        refine WX.s1 rfl rfl ?_
        refine WX.s1 rfl rfl ?_
        refine WX.put1 (fs := [.ref 90, .ref 91, .int (nI ls.length), .ref 92, .ref 96, .ref 100, .ref 67, .ref 106, .int (nI way), .int (nI (3 + st_)), .int sh, .int be]) (fs' := [.ref 90, .ref 91, .int (nI ls.length), .ref 92, .ref 96, .ref 100, .ref 67, .ref 106, .int (nI way), .int (nI (3 + st_)), .int 0, .int be]) rfl (by omega) (F_h51_89) (Nat.le_of_ble_eq_true rfl) (rfl) rfl (fun h57 e_h57 => ?_)
        have F_h57_89 : h57 89 = .inr (5, [.ref 90, .ref 91, .int (nI ls.length), .ref 92, .ref 96, .ref 100, .ref 67, .ref 106, .int (nI way), .int (nI (3 + st_)), .int 0, .int be]) := by rw [e_h57]; exact va_up_eq
        have F_h57_90 : h57 90 = .inl (0, 8000, .inl yA) := by rw [e_h57, va_up_neq (by decide)]; exact F_h51_90
        have F_h57_q : h57 q = .inr (0, [.ref (q + 1), .ref (q + 2), .ref (q + 3), .int tp, .int th]) := by rw [e_h57, va_up_neq (by omega)]; exact F_h51_q
        have F_h57__q_1_ : h57 (q + 1) = .inl (1, 256, .inl lA) := by rw [e_h57, va_up_neq (by omega)]; exact F_h51__q_1_
        have FR_h57 : Fr h h57 (fun j => j = 89) := FR_h51.zup e_h57 (by first | exact rfl | exact Or.inl rfl | exact Or.inr rfl | exact ⟨by decide, by decide⟩ | decide | omega)
        clear F_h51_89 F_h51_90 F_h51_q F_h51__q_1_ FR_h51 e_h57
        refine WX.s1 rfl rfl ?_
        refine WX.s1 rfl rfl ?_
        refine WX.put1 (fs := [.ref 90, .ref 91, .int (nI ls.length), .ref 92, .ref 96, .ref 100, .ref 67, .ref 106, .int (nI way), .int (nI (3 + st_)), .int 0, .int be]) (fs' := [.ref 90, .ref 91, .int (nI ls.length), .ref 92, .ref 96, .ref 100, .ref 67, .ref 106, .int (nI way), .int (nI (3 + st_)), .int 0, .int (nI st_)]) rfl (by omega) (F_h57_89) (Nat.le_of_ble_eq_true rfl) (rfl) rfl (fun h63 e_h63 => ?_)
        have F_h63_89 : h63 89 = .inr (5, [.ref 90, .ref 91, .int (nI ls.length), .ref 92, .ref 96, .ref 100, .ref 67, .ref 106, .int (nI way), .int (nI (3 + st_)), .int 0, .int (nI st_)]) := by rw [e_h63]; exact va_up_eq
        have F_h63_90 : h63 90 = .inl (0, 8000, .inl yA) := by rw [e_h63, va_up_neq (by decide)]; exact F_h57_90
        have F_h63_q : h63 q = .inr (0, [.ref (q + 1), .ref (q + 2), .ref (q + 3), .int tp, .int th]) := by rw [e_h63, va_up_neq (by omega)]; exact F_h57_q
        have F_h63__q_1_ : h63 (q + 1) = .inl (1, 256, .inl lA) := by rw [e_h63, va_up_neq (by omega)]; exact F_h57__q_1_
        have FR_h63 : Fr h h63 (fun j => j = 89) := FR_h57.zup e_h63 (by first | exact rfl | exact Or.inl rfl | exact Or.inr rfl | exact ⟨by decide, by decide⟩ | decide | omega)
        clear F_h57_89 F_h57_90 F_h57_q F_h57__q_1_ FR_h57 e_h63
        exact WX.ret0 rfl (kk1 ⟨fun _ => hs1, by omega⟩ h63 FR_h63 (by rw [hchd, if_pos hn1]; exact F_h63_89))
    · rw [show shpI ls.length st_ = -1 by unfold shpI; rw [if_pos hn1, if_neg hs1]]
      show WX _ _ _ 15 [(0, .ref 89), (1, .int (nI way)), (2, .ref q), (3, .int (nI ds)), (4, .int (nI st_))] [.int (-1)] (n, s, h)
      refine WX.s1 (L' := [(0, .ref 89), (1, .int (nI way)), (2, .ref q), (3, .int (nI ds)), (4, .int (nI st_)), (5, .int (-1))]) rfl rfl ?_
      refine WX.s1 rfl rfl ?_
      refine WX.if_ rfl (fun c_19 => ?_) (fun c_19 => absurd (by decide) c_19)
      clear c_19
      exact WX.ret0 rfl (kk2 (fun z => hs1 (z.1 hn1)))
  · rw [show shpI ls.length st_ = 2 from if_neg hn1]
    have hchd : chd ls.length = 4 := if_neg hn1
    show WX _ _ _ 15 [(0, .ref 89), (1, .int (nI way)), (2, .ref q), (3, .int (nI ds)), (4, .int (nI st_))] [.int 2] (n, s, h)
    refine WX.s1 (L' := [(0, .ref 89), (1, .int (nI way)), (2, .ref q), (3, .int (nI ds)), (4, .int (nI st_)), (5, .int 2)]) rfl rfl ?_
    refine WX.s1 rfl rfl ?_
    refine WX.if_ rfl (fun c_19 => absurd c_19 (by decide)) (fun c_19 => ?_)
    clear c_19
    refine WX.s1 rfl rfl ?_
    refine WX.callC (vs := [.int 2]) rfl rfl rfl (Nat.le_of_ble_eq_true rfl) rfl ?_
    refine x_lch2 ?_
    show WX _ _ _ 27 [(0, .ref 89), (1, .int (nI way)), (2, .ref q), (3, .int (nI ds)), (4, .int (nI st_)), (5, .int 2)] [.int 4] (n, s, h)
    refine WX.s1 rfl rfl ?_
    refine WX.s1 (S' := [.int (4 + (nI st_))]) rfl rfl ?_
    rw [show (4 + (nI st_)) = nI (4 + st_) from nI_add 4 st_]
    refine WX.s1 rfl rfl ?_
    refine WX.get1 (fs := [.ref 90, .ref 91, .int (nI ls.length), .ref 92, .ref 96, .ref 100, .ref 67, .ref 106, .int ki, .int (nI bt), .int sh, .int be]) rfl (by omega) (F_h_89) rfl ?_
    refine WX.icmp rfl (fun c_34 => ?_) (fun c_34 => ?_)
    · skip
      have n_34 : bt ≤ (4 + st_) := (nI_leI (a := bt) (b := 4 + st_) (by omega) (by omega)).mp c_34
      exact WX.ret0 rfl (kk2 (fun z => by have := z.2; omega))
    · skip
      have n_34 : (4 + st_) < bt := Nat.lt_of_not_le (fun zz_ => c_34 ((nI_leI (a := bt) (b := 4 + st_) (by omega) (by omega)).mpr zz_))
      refine WX.s1 rfl rfl ?_
      refine WX.s1 rfl rfl ?_
      refine WX.put1 (fs := [.ref 90, .ref 91, .int (nI ls.length), .ref 92, .ref 96, .ref 100, .ref 67, .ref 106, .int ki, .int (nI bt), .int sh, .int be]) (fs' := [.ref 90, .ref 91, .int (nI ls.length), .ref 92, .ref 96, .ref 100, .ref 67, .ref 106, .int (nI way), .int (nI bt), .int sh, .int be]) rfl (by omega) (F_h_89) (Nat.le_of_ble_eq_true rfl) (rfl) rfl (fun h39 e_h39 => ?_)
      have F_h39_89 : h39 89 = .inr (5, [.ref 90, .ref 91, .int (nI ls.length), .ref 92, .ref 96, .ref 100, .ref 67, .ref 106, .int (nI way), .int (nI bt), .int sh, .int be]) := by rw [e_h39]; exact va_up_eq
      have F_h39_90 : h39 90 = .inl (0, 8000, .inl yA) := by rw [e_h39, va_up_neq (by decide)]; exact F_h_90
      have F_h39_q : h39 q = .inr (0, [.ref (q + 1), .ref (q + 2), .ref (q + 3), .int tp, .int th]) := by rw [e_h39, va_up_neq (by omega)]; exact F_h_q
      have F_h39__q_1_ : h39 (q + 1) = .inl (1, 256, .inl lA) := by rw [e_h39, va_up_neq (by omega)]; exact F_h__q_1_
      have FR_h39 : Fr h h39 (fun j => j = 89) := FR_h.zup e_h39 (by first | exact rfl | exact Or.inl rfl | exact Or.inr rfl | exact ⟨by decide, by decide⟩ | decide | omega)
      clear F_h_89 F_h_90 F_h_q F_h__q_1_ FR_h e_h39
      refine WX.s1 rfl rfl ?_
      refine WX.s1 rfl rfl ?_
      refine WX.callC (vs := [.int 2]) rfl rfl rfl (Nat.le_of_ble_eq_true rfl) rfl ?_
      refine x_lch2 ?_
      show WX _ _ _ 48 [(0, .ref 89), (1, .int (nI way)), (2, .ref q), (3, .int (nI ds)), (4, .int (nI st_)), (5, .int 2)] [.int 4, .ref 89] (n, s, h39)
      refine WX.s1 rfl rfl ?_
      refine WX.s1 (S' := [.int (4 + (nI st_)), .ref 89]) rfl rfl ?_
      rw [show (4 + (nI st_)) = nI (4 + st_) from nI_add 4 st_]
      refine WX.put1 (fs := [.ref 90, .ref 91, .int (nI ls.length), .ref 92, .ref 96, .ref 100, .ref 67, .ref 106, .int (nI way), .int (nI bt), .int sh, .int be]) (fs' := [.ref 90, .ref 91, .int (nI ls.length), .ref 92, .ref 96, .ref 100, .ref 67, .ref 106, .int (nI way), .int (nI (4 + st_)), .int sh, .int be]) rfl (by omega) (F_h39_89) (Nat.le_of_ble_eq_true rfl) (rfl) rfl (fun h51 e_h51 => ?_)
      have F_h51_89 : h51 89 = .inr (5, [.ref 90, .ref 91, .int (nI ls.length), .ref 92, .ref 96, .ref 100, .ref 67, .ref 106, .int (nI way), .int (nI (4 + st_)), .int sh, .int be]) := by rw [e_h51]; exact va_up_eq
      have F_h51_90 : h51 90 = .inl (0, 8000, .inl yA) := by rw [e_h51, va_up_neq (by decide)]; exact F_h39_90
      have F_h51_q : h51 q = .inr (0, [.ref (q + 1), .ref (q + 2), .ref (q + 3), .int tp, .int th]) := by rw [e_h51, va_up_neq (by omega)]; exact F_h39_q
      have F_h51__q_1_ : h51 (q + 1) = .inl (1, 256, .inl lA) := by rw [e_h51, va_up_neq (by omega)]; exact F_h39__q_1_
      have FR_h51 : Fr h h51 (fun j => j = 89) := FR_h39.zup e_h51 (by first | exact rfl | exact Or.inl rfl | exact Or.inr rfl | exact ⟨by decide, by decide⟩ | decide | omega)
      clear F_h39_89 F_h39_90 F_h39_q F_h39__q_1_ FR_h39 e_h51
      refine WX.s1 rfl rfl ?_
      refine WX.s1 rfl rfl ?_
      refine WX.put1 (fs := [.ref 90, .ref 91, .int (nI ls.length), .ref 92, .ref 96, .ref 100, .ref 67, .ref 106, .int (nI way), .int (nI (4 + st_)), .int sh, .int be]) (fs' := [.ref 90, .ref 91, .int (nI ls.length), .ref 92, .ref 96, .ref 100, .ref 67, .ref 106, .int (nI way), .int (nI (4 + st_)), .int 2, .int be]) rfl (by omega) (F_h51_89) (Nat.le_of_ble_eq_true rfl) (rfl) rfl (fun h57 e_h57 => ?_)
      have F_h57_89 : h57 89 = .inr (5, [.ref 90, .ref 91, .int (nI ls.length), .ref 92, .ref 96, .ref 100, .ref 67, .ref 106, .int (nI way), .int (nI (4 + st_)), .int 2, .int be]) := by rw [e_h57]; exact va_up_eq
      have F_h57_90 : h57 90 = .inl (0, 8000, .inl yA) := by rw [e_h57, va_up_neq (by decide)]; exact F_h51_90
      have F_h57_q : h57 q = .inr (0, [.ref (q + 1), .ref (q + 2), .ref (q + 3), .int tp, .int th]) := by rw [e_h57, va_up_neq (by omega)]; exact F_h51_q
      have F_h57__q_1_ : h57 (q + 1) = .inl (1, 256, .inl lA) := by rw [e_h57, va_up_neq (by omega)]; exact F_h51__q_1_
      have FR_h57 : Fr h h57 (fun j => j = 89) := FR_h51.zup e_h57 (by first | exact rfl | exact Or.inl rfl | exact Or.inr rfl | exact ⟨by decide, by decide⟩ | decide | omega)
      clear F_h51_89 F_h51_90 F_h51_q F_h51__q_1_ FR_h51 e_h57
      refine WX.s1 rfl rfl ?_
      refine WX.s1 rfl rfl ?_
      refine WX.put1 (fs := [.ref 90, .ref 91, .int (nI ls.length), .ref 92, .ref 96, .ref 100, .ref 67, .ref 106, .int (nI way), .int (nI (4 + st_)), .int 2, .int be]) (fs' := [.ref 90, .ref 91, .int (nI ls.length), .ref 92, .ref 96, .ref 100, .ref 67, .ref 106, .int (nI way), .int (nI (4 + st_)), .int 2, .int (nI st_)]) rfl (by omega) (F_h57_89) (Nat.le_of_ble_eq_true rfl) (rfl) rfl (fun h63 e_h63 => ?_)
      have F_h63_89 : h63 89 = .inr (5, [.ref 90, .ref 91, .int (nI ls.length), .ref 92, .ref 96, .ref 100, .ref 67, .ref 106, .int (nI way), .int (nI (4 + st_)), .int 2, .int (nI st_)]) := by rw [e_h63]; exact va_up_eq
      have F_h63_90 : h63 90 = .inl (0, 8000, .inl yA) := by rw [e_h63, va_up_neq (by decide)]; exact F_h57_90
      have F_h63_q : h63 q = .inr (0, [.ref (q + 1), .ref (q + 2), .ref (q + 3), .int tp, .int th]) := by rw [e_h63, va_up_neq (by omega)]; exact F_h57_q
      have F_h63__q_1_ : h63 (q + 1) = .inl (1, 256, .inl lA) := by rw [e_h63, va_up_neq (by omega)]; exact F_h57__q_1_
      have FR_h63 : Fr h h63 (fun j => j = 89) := FR_h57.zup e_h63 (by first | exact rfl | exact Or.inl rfl | exact Or.inr rfl | exact ⟨by decide, by decide⟩ | decide | omega)
      clear F_h57_89 F_h57_90 F_h57_q F_h57__q_1_ FR_h57 e_h63
      exact WX.ret0 rfl (kk1 ⟨fun z => absurd z hn1, by omega⟩ h63 FR_h63 (by rw [hchd, if_neg hn1]; exact F_h63_89))
