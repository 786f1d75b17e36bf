/-! shares as they lie: ShX there are rows, ShP points and order, ShT spread, ShN none -/
def shO (k l : Nat) (od th : Int32) : aE := .inr (8, [.int (nI l), .ref (k + 1), .ref (k + 2), .ref (k + 3), .ref (k + 4), .ref (k + 5), .ref (k + 6), .int od, .int th])
def ShA (h : Nat → aE) (k l M : Nat) (od th : Int32) (pA rA fA wA oA sA : Nat → Int32) : Prop := h k = .inr (8, [.int (nI l), .ref (k + 1), .ref (k + 2), .ref (k + 3), .ref (k + 4), .ref (k + 5), .ref (k + 6), .int od, .int th]) ∧ h (k + 1) = .inl (1, l + 1, .inl pA) ∧ h (k + 2) = .inl (1, l + 1, .inl rA) ∧ h (k + 3) = .inl (1, l + 1, .inl fA) ∧ h (k + 4) = .inl (1, l + 1, .inl wA) ∧ h (k + 5) = .inl (1, M, .inl oA) ∧ h (k + 6) = .inl (1, M, .inl sA)
def ShX (h : Nat → aE) (k l M : Nat) : Prop := ∃ od th pA rA fA wA oA sA, ShA h k l M od th pA rA fA wA oA sA
def ShP (h : Nat → aE) (k l M o : Nat) (u : Nat → Nat) : Prop := ∃ th pA rA fA wA oA sA, ShA h k l M (nI o) th pA rA fA wA oA sA ∧ UIs pA u (l + 1)
def TabS (l o : Nat) (u : Nat → Nat) (pA fA wA oA sA : Nat → Int32) : Prop := UIs pA u (l + 1) ∧ (∀ s, s ≤ l → fA s = nI (mSum u s)) ∧ (∀ s, s ≤ l → massU (u s) ≠ 0 → ∃ g, 2 ^ g ≤ massU (u s) ∧ massU (u s) < 2 ^ (g + 1) ∧ wA s = nI (o - g)) ∧ (∀ p, p < 2 ^ o → oA p = nI (ownF u (l + 1) o p)) ∧ (∀ p, p < 2 ^ o → sA (slotF u (l + 1) o p) = nI p) ∧ mSum u (l + 1) = 2 ^ o
def ShT (h : Nat → aE) (k l M o : Nat) (u : Nat → Nat) : Prop := ∃ pA rA fA wA oA sA, ShA h k l M (nI o) 1 pA rA fA wA oA sA ∧ TabS l o u pA fA wA oA sA
def ShN (h : Nat → aE) (k l M : Nat) : Prop := ∃ od pA rA fA wA oA sA, ShA h k l M od 0 pA rA fA wA oA sA
theorem ShA.zfr {h h1 : Nat → aE} {A : Nat → Prop} {k l M : Nat} {od th : Int32} {pA rA fA wA oA sA : Nat → Int32} (r : ShA h k l M od th pA rA fA wA oA sA) (f : Fr h h1 A) (q : ∀ j, k ≤ j → j ≤ k + 6 → ¬ A j) : ShA h1 k l M od th pA rA fA wA oA sA := by
  obtain ⟨r0, r1, r2, r3, r4, r5, r6⟩ := r
  exact ⟨(f _ (q _ (by omega) (by omega))).trans r0, (f _ (q _ (by omega) (by omega))).trans r1, (f _ (q _ (by omega) (by omega))).trans r2, (f _ (q _ (by omega) (by omega))).trans r3, (f _ (q _ (by omega) (by omega))).trans r4, (f _ (q _ (by omega) (by omega))).trans r5, (f _ (q _ (by omega) (by omega))).trans r6⟩
theorem ShX.zfr {h h1 : Nat → aE} {A : Nat → Prop} {k l M : Nat} (r : ShX h k l M) (f : Fr h h1 A) (q : ∀ j, k ≤ j → j ≤ k + 6 → ¬ A j) : ShX h1 k l M := by
  obtain ⟨od, th, pA, rA, fA, wA, oA, sA, r⟩ := r
  exact ⟨od, th, pA, rA, fA, wA, oA, sA, r.zfr f q⟩
theorem ShP.zfr {h h1 : Nat → aE} {A : Nat → Prop} {k l M o : Nat} {u : Nat → Nat} (r : ShP h k l M o u) (f : Fr h h1 A) (q : ∀ j, k ≤ j → j ≤ k + 6 → ¬ A j) : ShP h1 k l M o u := by
  obtain ⟨th, pA, rA, fA, wA, oA, sA, r, r2⟩ := r
  exact ⟨th, pA, rA, fA, wA, oA, sA, r.zfr f q, r2⟩
theorem ShT.zfr {h h1 : Nat → aE} {A : Nat → Prop} {k l M o : Nat} {u : Nat → Nat} (r : ShT h k l M o u) (f : Fr h h1 A) (q : ∀ j, k ≤ j → j ≤ k + 6 → ¬ A j) : ShT h1 k l M o u := by
  obtain ⟨pA, rA, fA, wA, oA, sA, r, r2⟩ := r
  exact ⟨pA, rA, fA, wA, oA, sA, r.zfr f q, r2⟩
theorem ShN.zfr {h h1 : Nat → aE} {A : Nat → Prop} {k l M : Nat} (r : ShN h k l M) (f : Fr h h1 A) (q : ∀ j, k ≤ j → j ≤ k + 6 → ¬ A j) : ShN h1 k l M := by
  obtain ⟨od, pA, rA, fA, wA, oA, sA, r⟩ := r
  exact ⟨od, pA, rA, fA, wA, oA, sA, r.zfr f q⟩
theorem ShT.toP {h : Nat → aE} {k l M o : Nat} {u : Nat → Nat} (r : ShT h k l M o u) : ShP h k l M o u := by
  obtain ⟨pA, rA, fA, wA, oA, sA, r, r2⟩ := r
  exact ⟨1, pA, rA, fA, wA, oA, sA, r, r2.1⟩
theorem ShP.toX {h : Nat → aE} {k l M o : Nat} {u : Nat → Nat} (r : ShP h k l M o u) : ShX h k l M := by
  obtain ⟨th, pA, rA, fA, wA, oA, sA, r, r2⟩ := r
  exact ⟨_, th, pA, rA, fA, wA, oA, sA, r⟩
theorem ShN.toX {h : Nat → aE} {k l M : Nat} (r : ShN h k l M) : ShX h k l M := by
  obtain ⟨od, pA, rA, fA, wA, oA, sA, r⟩ := r
  exact ⟨od, 0, pA, rA, fA, wA, oA, sA, r⟩
theorem ShX.rcv {n s : Nat} {h : Nat → aE} {k l M : Nat} {vs : List Value} (r : ShX h k l M) (hk : k < n) : rcv 9 (.ref k :: vs) (n, s, h) = true := by
  obtain ⟨od, th, pA, rA, fA, wA, oA, sA, r⟩ := r
  exact rcv_ok hk r.1
theorem xt_weigh {d n s : Nat} {h : Nat → aE} {k l M o q : Nat} {cA : Nat → Int32} {cnt : Nat → Nat} (hk : k + 6 < n) (hq : q < n) (hqk : q < k ∨ k + 6 < q) (hl : l < 64) (ho : o ≤ 9) (hcA : CntIs cA cnt (l + 1)) (ht0 : 0 < sumN cnt (l + 1)) (htb : sumN cnt (l + 1) ≤ 100000) (hnz : nzC cnt (l + 1) ≤ 2 ^ o) (X : ShX h k l M) (F_h_q : h q = .inl (1, l + 1, .inl cA)) {Ψ : Option Value → aH → Prop} (kk : ∀ h', Fr h h' (fun j => k ≤ j ∧ j ≤ k + 6) → ShP h' k l M o (wU cnt o (l + 1)) → Ψ none (n, s, h')) : WO (mM (d + 2)) 100 [.ref k, .ref q, .int (nI o)] (n, s, h) Ψ := by
  obtain ⟨od, th, pA, rA, fA, wA, oA, sA, r0, r1, r2, r3, r4, r5, r6⟩ := X
  exact x_weigh hk hq hqk hl ho hcA ht0 htb hnz r0 r1 r2 F_h_q (fun h' pA' rA' fr a b c e => kk h' (fr.mono (fun j hj => by omega)) ⟨th, pA', rA', fA, wA, oA, sA, ⟨a, b, c, (fr _ (by omega)).trans r3, (fr _ (by omega)).trans r4, (fr _ (by omega)).trans r5, (fr _ (by omega)).trans r6⟩, e⟩)
theorem xt_spread {d n s : Nat} {h : Nat → aE} {k l M o : Nat} {u : Nat → Nat} (hk : k + 6 < n) (hl : l < 64) (ho5 : o = 0 ∨ 5 ≤ o) (ho : o ≤ 9) (hM : 2 ^ o ≤ M) (hMb : M < 2 ^ 20) (hS : mSum u (l + 1) = 2 ^ o) (P : ShP h k l M o u) {Ψ : Option Value → aH → Prop} (kk : ∀ h', Fr h h' (fun j => k ≤ j ∧ j ≤ k + 6) → ShT h' k l M o u → Ψ none (n, s, h')) : WO (mM (d + 2)) 103 [.ref k] (n, s, h) Ψ := by
  obtain ⟨th, pA, rA, fA, wA, oA, sA, ⟨r0, r1, r2, r3, r4, r5, r6⟩, hU⟩ := P
  exact x_spreadS hk hl ho5 ho hM hMb hU hS r0 r1 r3 r4 r5 r6 (fun h9 fA9 wA9 oA9 sA9 fr a0 a1 a3 a4 a5 a6 b1 b2 b3 b4 => kk h9 (fr.mono (fun j hj => ⟨hj.1, hj.2.1⟩)) ⟨pA, rA, fA9, wA9, oA9, sA9, ⟨a0, a1, (fr _ (by omega)).trans r2, a3, a4, a5, a6⟩, hU, b1, b2, b3, b4, hS⟩)
theorem xt_tell {d n s : Nat} {h : Nat → aE} {k l M o r N : Nat} {u : Nat → Nat} {bb : Option (List Nat)} (hk : k + 6 < n) (hr : r + 1 < n) (hrk : r + 1 < k ∨ k + 6 < r) (hN : N < 2 ^ 31) (hl : l < 64) (ho5 : 5 ≤ o) (ho : o ≤ 9) (hS : mSum u (l + 1) = 2 ^ o) (hR0 : RowIs h r N bb 0 0) (P : ShP h k l M o u) {Ψ : Option Value → aH → Prop} (kk : ∀ h', Fr h h' (fun j => j = r ∨ j = r + 1) → RowIs h' r N (bputs N bb (leBy (shB u o (0, 0)).2 (((shB u o (0, 0)).1 + 7) / 8))) 0 0 → Ψ none (n, s, h')) : WO (mM (d + 3)) 113 [.ref k, .ref r] (n, s, h) Ψ := by
  obtain ⟨th, pA, rA, fA, wA, oA, sA, ⟨r0, r1, r2, r3, r4, r5, r6⟩, hU⟩ := P
  exact x_tell hk hr hrk hN hl ho5 ho hU hS hR0 r0 r1 kk
theorem ShT.s {h : Nat → aE} {k l M o : Nat} {u : Nat → Nat} (T : ShT h k l M o u) : h k = .inr (8, [.int (nI l), .ref (k + 1), .ref (k + 2), .ref (k + 3), .ref (k + 4), .ref (k + 5), .ref (k + 6), .int (nI o), .int 1]) ∧ ShS h k l M o u ∧ mSum u (l + 1) = 2 ^ o := by
  obtain ⟨pA, rA, fA, wA, oA, sA, ⟨r0, r1, r2, r3, r4, r5, r6⟩, t1, t2, t3, t4, t5, t6⟩ := T
  exact ⟨r0, ⟨pA, fA, wA, sA, r1, r3, r4, r6, t1, t2, t3, t5⟩, t6⟩
theorem xt_canTell {d n s : Nat} {h : Nat → aE} {k l M o q : Nat} {cA : Nat → Int32} {u cnt : Nat → Nat} (hk : k + 6 < n) (hq : q < n) (hl : l < 64) (P : ShP h k l M o u) (F_h_q : h q = .inl (1, l + 1, .inl cA)) (hC : ∀ i, i ≤ l → cA i = nI (cnt i) ∧ cnt i < 2 ^ 31) {Ψ : Option Value → aH → Prop} (kk1 : (∀ i, i ≤ l → cnt i ≠ 0 → massU (u i) ≠ 0) → Ψ (some (.int 1)) (n, s, h)) (kk2 : (∃ i, i ≤ l ∧ cnt i ≠ 0 ∧ massU (u i) = 0) → Ψ (some (.int 0)) (n, s, h)) : WO (mM (d + 1)) 106 [.ref k, .ref q] (n, s, h) Ψ := by
  obtain ⟨th, pA, rA, fA, wA, oA, sA, ⟨r0, r1, r2, r3, r4, r5, r6⟩, hU⟩ := P
  exact x_canTell hk hq hl hU hC r0 r1 F_h_q kk1 kk2
theorem xt_rowBits {d n s : Nat} {h : Nat → aE} {k l o M y NS : Nat} {yA : Nat → Int32} {u : Nat → Nat} {ss : List Nat} (hk : k + 6 < n) (hl : l < 64) (ho5 : o = 0 ∨ 5 ≤ o) (ho : o ≤ 9) (hM : 2 ^ o ≤ M) (hMb : M < 2 ^ 20) (T : ShT h k l M o u) (hyn : y < n) (hNS : NS < 2 ^ 20) (hle : ss.length ≤ NS) (h0 : 1 ≤ ss.length) (hss : ∀ i, i < ss.length → yA i = nI (ss.getD i 0) ∧ ss.getD i 0 ≤ l ∧ massU (u (ss.getD i 0)) ≠ 0) (F_h_y : h y = .inl (1, NS, .inl yA)) {Ψ : Option Value → aH → Prop} (kk : ∀ c p, RowC u (l + 1) o ss c p → Ψ (some (.int (nI c))) (n, s, h)) : WO (mM (d + 2)) 110 [.ref k, .ref y, .int (nI ss.length)] (n, s, h) Ψ := by
  obtain ⟨r0, hA, hS⟩ := T.s
  exact x_rowBits hk hl ho5 ho hM hMb hS hA hyn hNS hle h0 hss r0 F_h_y kk
theorem tell_le {u : Nat → Nat} {o : Nat} (ho : o ≤ 9) (hS : mSum u 64 = 2 ^ o) : ∀ f x a b, 64 ≤ x + f → x ≤ 64 → a + mSum u x = 2 ^ o → b.1 ≤ (tellF u f x a b).1 ∧ (tellF u f x a b).1 ≤ b.1 + 13 * (64 - x) ∧ (a ≠ 0 → b.1 + lgL a ≤ (tellF u f x a b).1) := by
  have h2o : 2 ^ o ≤ 2 ^ 9 := Nat.pow_le_pow_right (by decide) ho
  intro f
  induction f with
  | zero =>
    intro x a b h1 h2 h3
    have hx : x = 64 := by omega
    rw [hx] at h3
    exact ⟨Nat.le_refl _, by show b.1 ≤ _; omega, fun z => by omega⟩
  | succ f ih =>
    intro x a b h1 h2 h3
    by_cases ha : a = 0
    · rw [ha, tellF_0]
      exact ⟨Nat.le_refl _, by omega, fun z => absurd rfl z⟩
    · have hx : x < 64 := by
        apply Classical.byContradiction
        intro q
        rw [show x = 64 by omega] at h3
        omega
      have hcl := code_le (u := u x) b (show a ≤ 512 by omega)
      have hcg : b.1 + lgL a ≤ (codeB a (u x) b).1 := by
        unfold codeB
        split
        · rw [addB1]; omega
        · rw [addB1]; omega
      have hmx : mSum u (x + 1) ≤ 2 ^ o := by rw [← hS]; exact mSum_mono u (by omega)
      rw [mSum_succ] at hmx
      by_cases hu : u x = 1
      · have hm0 : massU (u x) = 0 := by rw [hu]; rfl
        obtain ⟨z, z0, z1, z3⟩ := nz_ex (u := u) (a := x + 1) (k := 64 - (x + 1)) (by rw [show x + 1 + (64 - (x + 1)) = 64 by omega, hS, mSum_succ]; omega)
        have hm1 := mSum_ones z z1
        rw [mSum_succ] at hm1
        have hzF : zF u 64 (x + 1) = z := zF_is z 64 (x + 1) (by omega) z1 z3
        rw [tellF_1 b ha hu hzF]
        obtain ⟨i1, i2, -⟩ := ih (x + 1 + z) a (zB (codeB a (u x) b) z) (by omega) (by omega) (by rw [hm1]; omega)
        have hzb : (zB (codeB a (u x) b) z).1 = (codeB a (u x) b).1 + 2 * (z / 3) + 2 := by
          unfold zB
          rw [addB1, thr_1]
        rw [hzb] at i1 i2
        exact ⟨by omega, by omega, fun _ => by omega⟩
      · rw [tellF_2 b ha hu]
        obtain ⟨i1, i2, -⟩ := ih (x + 1) (a - massU (u x)) (codeB a (u x) b) (by omega) (by omega) (by rw [mSum_succ]; omega)
        exact ⟨by omega, by omega, fun _ => by omega⟩
theorem shB_le {u : Nat → Nat} {o : Nat} (ho5 : 5 ≤ o) (ho : o ≤ 9) (hS : mSum u 64 = 2 ^ o) (b : Nat × Nat) : b.1 + 9 ≤ (shB u o b).1 ∧ (shB u o b).1 ≤ b.1 + 836 := by
  have h2p : 2 ^ 5 ≤ 2 ^ o := Nat.pow_le_pow_right (by decide) ho5
  have h2o : 2 ^ o ≤ 2 ^ 9 := Nat.pow_le_pow_right (by decide) ho
  obtain ⟨i1, i2, i3⟩ := tell_le ho hS 64 0 (2 ^ o) (addB b (o - 5) 4) (by omega) (by omega) rfl
  have i4 := i3 (by omega)
  rw [addB1] at i2 i4
  have hlg : 5 ≤ lgL (2 ^ o) := by
    obtain ⟨k1, k2, k3, k4⟩ := lgL_ok (a := 2 ^ o) (by omega)
    apply Classical.byContradiction
    intro z
    have := Nat.pow_le_pow_right (show 0 < 2 by decide) (show lgL (2 ^ o) + 1 ≤ 5 by omega)
    omega
  unfold shB
  exact ⟨by omega, by omega⟩
noncomputable def clF (ss : List Nat) (B k : Nat) : Nat × Nat := if (boF ss k).1 ≠ 0 ∧ (boF ss k).2 < B then boF ss k else (0, B)
theorem bo_s (ss : List Nat) (k : Nat) : boF ss (k + 1) = if 2 ^ (5 + k) < (cdF ss).2 then boF ss k else if (boF ss k).1 = 0 ∨ shC ss (5 + k) < (boF ss k).2 then (5 + k, shC ss (5 + k)) else boF ss k := rfl
theorem cl_skip {ss : List Nat} {B k : Nat} (h : 2 ^ (5 + k) < (cdF ss).2) : clF ss B (k + 1) = clF ss B k := by
  unfold clF
  rw [bo_s, if_pos h]
theorem cl_keep {ss : List Nat} {B k : Nat} (h : (cdF ss).2 ≤ 2 ^ (5 + k)) (h2 : (clF ss B k).2 ≤ shC ss (5 + k)) : clF ss B (k + 1) = clF ss B k := by
  unfold clF at h2 ⊢
  rw [bo_s, if_neg (show ¬ 2 ^ (5 + k) < (cdF ss).2 by omega)]
  by_cases c : (boF ss k).1 ≠ 0 ∧ (boF ss k).2 < B
  · rw [if_pos c] at h2 ⊢
    rw [if_neg (show ¬ ((boF ss k).1 = 0 ∨ shC ss (5 + k) < (boF ss k).2) by omega), if_pos c]
  · rw [if_neg c] at h2 ⊢
    have h2' : B ≤ shC ss (5 + k) := h2
    by_cases e : (boF ss k).1 = 0 ∨ shC ss (5 + k) < (boF ss k).2
    · rw [if_pos e]
      exact if_neg (fun q => by have := q.2; omega)
    · rw [if_neg e, if_neg c]
theorem cl_take {ss : List Nat} {B k : Nat} (h : (cdF ss).2 ≤ 2 ^ (5 + k)) (h2 : shC ss (5 + k) < (clF ss B k).2) : clF ss B (k + 1) = (5 + k, shC ss (5 + k)) := by
  unfold clF at h2 ⊢
  rw [bo_s, if_neg (show ¬ 2 ^ (5 + k) < (cdF ss).2 by omega)]
  by_cases c : (boF ss k).1 ≠ 0 ∧ (boF ss k).2 < B
  · rw [if_pos c] at h2
    rw [if_pos (Or.inr h2)]
    exact if_pos ⟨by show 5 + k ≠ 0; omega, by show shC ss (5 + k) < B; omega⟩
  · rw [if_neg c] at h2
    have h2' : shC ss (5 + k) < B := h2
    have e : (boF ss k).1 = 0 ∨ shC ss (5 + k) < (boF ss k).2 := by
      by_cases z : (boF ss k).1 = 0
      · exact Or.inl z
      · exact Or.inr (by omega)
    rw [if_pos e]
    exact if_pos ⟨by show 5 + k ≠ 0; omega, h2'⟩
theorem wU_l {ss : List Nat} {l o : Nat} (hok : SyOk ss) (hl : l < 64) (hs : ∀ s, s ∈ ss → s ≤ l) (hd : (cdF ss).2 ≤ 2 ^ o) : wU (cdF ss).1 o (l + 1) = wU (cdF ss).1 o 64 ∧ sumN (cdF ss).1 (l + 1) = ss.length ∧ nzC (cdF ss).1 (l + 1) = (cdF ss).2 := by
  have h1 : ∀ s, s ∈ ss → s < l + 1 := fun s q => Nat.lt_succ_of_le (hs s q)
  have e1 := cd_sum h1
  have e2 := cd_nz h1
  have p := wU_pad (cnt := (cdF ss).1) (o := o) (N := l + 1) (by omega) (by rw [e1]; exact hok.2.1) (by rw [e2]; exact hd) (64 - (l + 1)) (fun s q1 _ => by
    apply Classical.byContradiction
    intro z
    have := hs s (cd_pos.mp z)
    omega)
  rw [show l + 1 + (64 - (l + 1)) = 64 by omega] at p
  exact ⟨p.1.symm, e1, e2⟩
theorem own_l {ss : List Nat} {l o : Nat} (hok : SyOk ss) (hl : l < 64) (hs : ∀ s, s ∈ ss → s ≤ l) (ho5 : o = 0 ∨ 5 ≤ o) (ho : o ≤ 9) (hd : (cdF ss).2 ≤ 2 ^ o) : mSum (wU (cdF ss).1 o 64) (l + 1) = 2 ^ o ∧ ∀ p, ownF (wU (cdF ss).1 o 64) 64 o p = ownF (wU (cdF ss).1 o 64) (l + 1) o p := by
  obtain ⟨e0, e1, e2⟩ := wU_l hok hl hs hd
  have w := wU_ok (cnt := (cdF ss).1) (o := o) (N := l + 1) (by omega) (by rw [e1]; exact hok.2.1) (by rw [e2]; exact hd)
  rw [e0] at w
  have p := own_pad ho5 ho w.1 (64 - (l + 1)) (fun s q1 _ => (w.2 s).mpr (by
    apply Classical.byContradiction
    intro z
    have := hs s (cd_pos.mp z)
    omega))
  rw [show l + 1 + (64 - (l + 1)) = 64 by omega] at p
  exact ⟨w.1, p.2⟩
