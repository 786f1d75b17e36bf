/-! Row as a list of bytes: some l, or none once something was left out -/
def byt (v : Int32) : Nat := v.toBitVec.toNat % 256
theorem byt_lt (v : Int32) : byt v < 256 := Nat.mod_lt _ (by decide)
theorem byt_sb (v : Int32) : v.toInt8.toInt32 = sb_b (byt v) := by
  unfold sb_b byt nI
  have e : v.toInt8 = (Int32.ofNat (v.toBitVec.toNat % 256)).toInt8 := by
    apply Int8.toBitVec_inj.mp
    apply BitVec.eq_of_toNat_eq
    show (v.toBitVec.signExtend 8).toNat = ((Int32.ofNat (v.toBitVec.toNat % 256)).toBitVec.signExtend 8).toNat
    rw [BitVec.signExtend_eq_setWidth_of_le _ (by decide), BitVec.signExtend_eq_setWidth_of_le _ (by decide), BitVec.toNat_setWidth, BitVec.toNat_setWidth]
    have e2 : (Int32.ofNat (v.toBitVec.toNat % 256)).toBitVec.toNat = v.toBitVec.toNat % 256 := pk_tn (by omega)
    rw [e2]
    omega
  rw [e]
def bput (N : Nat) (b : Option (List Nat)) (c : Nat) : Option (List Nat) := b.bind (fun l => if l.length < N then some (l ++ [c]) else none)
def bputs (N : Nat) (b : Option (List Nat)) (l : List Nat) : Option (List Nat) := l.foldl (bput N) b
def RowR (N : Nat) (g : Nat → Int32) (u : Nat) (sp : Int32) (b : Option (List Nat)) : Prop := u ≤ N ∧ match b with
  | some l => sp = 0 ∧ u = l.length ∧ ∀ i, i < l.length → l.getD i 0 < 256 ∧ g i = sb_b (l.getD i 0)
  | none => sp = 1
def RowIs (h : Nat → aE) (k N : Nat) (b : Option (List Nat)) (ho : Int64) (hd : Int32) : Prop := ∃ g u sp, RowAt h k N g u sp ho hd ∧ RowR N g u sp b
theorem RowIs.fr {h h1 : Nat → aE} {A : Nat → Prop} {k N : Nat} {b : Option (List Nat)} {hd : Int32} {ho : Int64} (r : RowIs h k N b ho hd) (f : Fr h h1 A) (h0 : ¬ A k) (h2 : ¬ A (k + 1)) : RowIs h1 k N b ho hd := by
  obtain ⟨g, u, sp, r1, r2⟩ := r
  exact ⟨g, u, sp, r1.fr f h0 h2, r2⟩
theorem RowR.put {N : Nat} {g : Nat → Int32} {u : Nat} {sp : Int32} {b : Option (List Nat)} {v : Int32} (r : RowR N g u sp b) (hu : u < N) : RowR N (upd g u v.toInt8.toInt32) (u + 1) sp (bput N b (byt v)) := by
  refine ⟨hu, ?_⟩
  cases b with
  | none => exact r.2
  | some l =>
    obtain ⟨-, hs, rfl, hl⟩ := r
    show match bput N (some l) (byt v) with
      | some l2 => sp = 0 ∧ l.length + 1 = l2.length ∧ ∀ i, i < l2.length → l2.getD i 0 < 256 ∧ upd g l.length v.toInt8.toInt32 i = sb_b (l2.getD i 0)
      | none => sp = 1
    have e : bput N (some l) (byt v) = some (l ++ [byt v]) := by
      show (if l.length < N then some (l ++ [byt v]) else none) = _
      rw [if_pos hu]
    rw [e]
    refine ⟨hs, by simp, fun i hi => ?_⟩
    rw [List.length_append] at hi
    have hi : i < l.length + 1 := hi
    rw [List.getD_eq_getElem?_getD]
    by_cases h : i = l.length
    · subst h
      rw [List.getElem?_append_right (Nat.le_refl _), Nat.sub_self]
      show byt v < 256 ∧ _ = sb_b (byt v)
      refine ⟨byt_lt v, ?_⟩
      rw [pk_us]
      exact byt_sb v
    · rw [List.getElem?_append_left (by omega), ← List.getD_eq_getElem?_getD, pk_un h]
      exact hl i (by omega)
theorem RowR.over {N : Nat} {g : Nat → Int32} {u : Nat} {sp : Int32} {b : Option (List Nat)} {c : Nat} (r : RowR N g u sp b) (hu : N ≤ u) : RowR N g u 1 (bput N b c) := by
  refine ⟨r.1, ?_⟩
  cases b with
  | none => rfl
  | some l =>
    have hl := r.2.2.1
    have e : bput N (some l) c = none := by
      show (if l.length < N then some (l ++ [c]) else none) = none
      rw [if_neg (by omega)]
    rw [e]
theorem w_putB {d n s : Nat} {h : Nat → aE} {k N : Nat} {b : Option (List Nat)} {hd : Int32} {ho : Int64} {v : Int32} (hn : k + 1 < n) (r : RowIs h k N b ho hd) (hN : N < 2 ^ 31) {Ψ : Option Value → aH → Prop} (kk : ∀ h', Fr h h' (fun j => j = k ∨ j = k + 1) → RowIs h' k N (bput N b (byt v)) ho hd → Ψ none (n, s, h')) : WO (mM (d + 1)) 86 [.ref k, .int v] (n, s, h) Ψ := by
  obtain ⟨g, u, sp, r1, r2⟩ := r
  refine w_put hn r1 r2.1 hN (fun h' fr a b => kk h' fr ?_)
  rcases Nat.lt_or_ge u N with q | q
  · exact ⟨_, _, _, a q, r2.put q⟩
  · exact ⟨_, _, _, b q, r2.over q⟩
/-- the m lowest bytes of a long, the lowest first -/
def leB (x : Int64) (i : Nat) : Nat := x.toBitVec.toNat / 2 ^ (8 * i) % 256
def leL (x : Int64) (m : Nat) : List Nat := (List.range m).map (leB x)
theorem leB_of (x : Int64) {i : Nat} (hi : i < 8) : byt ((x.toUInt64 >>> ((8 * nI i).toInt64.toUInt64 &&& Int64.toUInt64 63)).toInt64.toInt32) = leB x i := by
  have e0 : (8 : Int32) * nI i = nI (8 * i) := pk_mul 8 i
  rw [e0]
  have e1 : ((nI (8 * i)).toInt64.toUInt64 &&& Int64.toUInt64 63) = UInt64.ofNat (8 * i) := by
    match i, hi with
    | 0, _ => decide +kernel
    | 1, _ => decide +kernel
    | 2, _ => decide +kernel
    | 3, _ => decide +kernel
    | 4, _ => decide +kernel
    | 5, _ => decide +kernel
    | 6, _ => decide +kernel
    | 7, _ => decide +kernel
    | k + 8, h => exact absurd h (by omega)
  rw [e1]
  unfold byt leB
  have e2 : (x.toUInt64 >>> UInt64.ofNat (8 * i)).toInt64.toInt32.toBitVec.toNat = x.toBitVec.toNat / 2 ^ (8 * i) % 2 ^ 32 := by
    have h64 : (UInt64.ofNat (8 * i)).toNat = 8 * i := by
      rw [UInt64.toNat_ofNat']
      exact Nat.mod_eq_of_lt (by omega)
    show ((x.toUInt64 >>> UInt64.ofNat (8 * i)).toBitVec.signExtend 32).toNat = _
    rw [BitVec.signExtend_eq_setWidth_of_le _ (by decide), BitVec.toNat_setWidth]
    show (x.toUInt64 >>> UInt64.ofNat (8 * i)).toNat % 2 ^ 32 = _
    rw [UInt64.toNat_shiftRight, h64, Nat.shiftRight_eq_div_pow, Nat.mod_eq_of_lt (show 8 * i < 64 by omega)]
    rfl
  rw [e2]
  omega
set_option maxRecDepth 20000 in
theorem w_putNumber {d n s : Nat} {h : Nat → aE} {k N : Nat} {b : Option (List Nat)} {hd : Int32} {ho : Int64} {x : Int64} {m : Nat} (hn : k + 1 < n) (r : RowIs h k N b ho hd) (hN : N < 2 ^ 31) (hm : m ≤ 8) {Ψ : Option Value → aH → Prop} (kk : ∀ h', Fr h h' (fun j => j = k ∨ j = k + 1) → RowIs h' k N (bputs N b (leL x m)) ho hd → Ψ none (n, s, h')) : WO (mM (d + 2)) 87 [.ref k, .long x, .int (nI m)] (n, s, h) Ψ := by
  refine WO.of (Nat.le_of_ble_eq_true rfl) ?_
  show WX (lk tX7_putNumber) (mM (d + 1)) Ψ 0 [(0, .ref k), (1, .long x), (3, .int (nI m))] [] (n, s, h)
  have loop : ∀ (t i : Nat) (h1 : Nat → aE), i + t = m → Fr h h1 (fun j => j = k ∨ j = k + 1) → RowIs h1 k N (bputs N b (leL x i)) ho hd → WX (lk tX7_putNumber) (mM (d + 1)) Ψ 3 [(0, .ref k), (1, .long x), (3, .int (nI m)), (4, .int (nI i))] [] (n, s, h1) := by
    intro t
    induction t with
    | zero =>
      intro i h1 ht fr rr
      obtain rfl : i = m := by omega
      refine WX.s1 rfl rfl ?_
      refine WX.s1 rfl rfl ?_
      refine WX.icmp rfl (fun c_6 => ?_) (fun c_6 => absurd (nI_le (Nat.le_refl _) (by omega)) c_6)
      exact WX.ret0 rfl (kk h1 fr rr)
    | succ t ih =>
      intro i h1 ht fr rr
      obtain ⟨g9, u9, sp9, ra, rb⟩ := id rr
      refine WX.s1 rfl rfl ?_
      refine WX.s1 rfl rfl ?_
      refine WX.icmp rfl (fun c_6 => absurd c_6 (nI_ge (by omega) (by omega))) (fun c_6 => ?_)
      refine WX.s1 rfl rfl ?_
      refine WX.s1 rfl rfl ?_
      refine WX.s1 rfl rfl ?_
      refine WX.s1 rfl rfl ?_
      refine WX.s1 rfl rfl ?_
      refine WX.s1 rfl rfl ?_
      refine WX.s1 rfl rfl ?_
      refine WX.callC (vs := [.ref k, .int _]) rfl rfl rfl (Nat.le_of_ble_eq_true rfl) (rcv_ok (by omega) ra.1) ?_
      refine w_putB hn rr hN (fun h2 fr2 rr2 => ?_)
      show WX _ _ _ 21 [(0, .ref k), (1, .long x), (3, .int (nI m)), (4, .int (nI i))] [] (n, s, h2)
      refine WX.incN (L' := fun x21 => [(0, .ref k), (1, .long x), (3, .int (nI m)), (4, .int x21)]) rfl rfl (fun _ => rfl) (fun x21 e_x21 => ?_)
      try dsimp only at e_x21
      refine WX.s1 rfl rfl ?_
      rw [show x21 = nI (i + 1) by rw [e_x21]; exact nI_1 i]
      refine ih (i + 1) h2 (by omega) (fr.tr fr2) ?_
      have e1 : leL x (i + 1) = leL x i ++ [leB x i] := by simp [leL, List.range_succ]
      rw [e1]
      unfold bputs at rr2 ⊢
      rw [List.foldl_append]
      rw [← leB_of x (show i < 8 by omega)]
      exact rr2
  refine WX.s1 rfl rfl ?_
  refine WX.isN (L' := fun x1 => [(0, .ref k), (1, .long x), (3, .int (nI m)), (4, .int x1)]) rfl (fun _ => rfl) (fun x1 e_x1 => ?_)
  try dsimp only at e_x1
  rw [show x1 = nI 0 by rw [e_x1]; rfl]
  exact loop m 0 h (by omega) Fr.rf r
