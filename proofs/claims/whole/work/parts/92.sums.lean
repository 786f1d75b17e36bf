/-! sums of masses: the points are the whole of 2^order -/
theorem sumN_le {f g : Nat → Nat} : ∀ {N : Nat}, (∀ s, s < N → f s ≤ g s) → sumN f N ≤ sumN g N := by
  intro N
  induction N with
  | zero => intro _; exact Nat.le_refl _
  | succ N ih =>
    intro h
    have h1 := ih (fun s hs => h s (by omega))
    have h2 := h N (Nat.lt_succ_self _)
    show sumN f N + f N ≤ sumN g N + g N
    omega
theorem sumN_eq {f g : Nat → Nat} : ∀ {N : Nat}, (∀ s, s < N → f s = g s) → sumN f N = sumN g N := by
  intro N h
  exact Nat.le_antisymm (sumN_le (fun s hs => Nat.le_of_eq (h s hs))) (sumN_le (fun s hs => Nat.le_of_eq (h s hs).symm))
theorem sumN_mul (f : Nat → Nat) (c : Nat) : ∀ N, sumN (fun s => f s * c) N = sumN f N * c := by
  intro N
  induction N with
  | zero => exact (Nat.zero_mul c).symm
  | succ N ih =>
    show sumN (fun s => f s * c) N + f N * c = (sumN f N + f N) * c
    rw [ih, Nat.add_mul]
theorem sumN_get (f : Nat → Nat) : ∀ {N s : Nat}, s < N → f s ≤ sumN f N := by
  intro N
  induction N with
  | zero => intro s hs; omega
  | succ N ih =>
    intro s hs
    show f s ≤ sumN f N + f N
    by_cases q : s = N
    · rw [q]; omega
    · have := ih (show s < N by omega); omega
theorem sumN_upd (F : Nat → Nat) (u : Nat → Nat) (b x : Nat) : ∀ {N : Nat}, b < N → sumN (fun s => F (updN u b x s)) N + F (u b) = sumN (fun s => F (u s)) N + F x := by
  intro N
  induction N with
  | zero => intro h; omega
  | succ N ih =>
    intro h
    show sumN (fun s => F (updN u b x s)) N + F (updN u b x N) + F (u b) = sumN (fun s => F (u s)) N + F (u N) + F x
    by_cases q : b = N
    · have e : sumN (fun s => F (updN u b x s)) N = sumN (fun s => F (u s)) N := sumN_eq (fun s hs => by show F (updN u b x s) = F (u s); rw [updN_n (by omega)])
      rw [e, ← q, updN_s]
      omega
    · have := ih (by omega)
      rw [updN_n (fun z => q z.symm)]
      omega
theorem mx_max {u : Nat → Nat} : ∀ {N s : Nat}, s < N → u s ≤ u (mxO u N) := by
  intro N
  induction N with
  | zero => intro s hs; omega
  | succ N ih =>
    intro s hs
    show u s ≤ u (if u (mxO u N) < u N then N else mxO u N)
    by_cases q : u (mxO u N) < u N
    · rw [if_pos q]
      by_cases z : s = N
      · rw [z]; exact Nat.le_refl _
      · have := ih (show s < N by omega); omega
    · rw [if_neg q]
      by_cases z : s = N
      · rw [z]; omega
      · exact ih (by omega)
def nzU (u : Nat) : Nat := if u = 1 then 0 else 1
def mSum (u : Nat → Nat) (N : Nat) : Nat := sumN (fun s => massU (u s)) N
def nSum (u : Nat → Nat) (N : Nat) : Nat := sumN (fun s => nzU (u s)) N
theorem mass_nz {u : Nat} (h : u ≤ 2) : massU u ≤ nzU u := by
  obtain rfl | rfl | rfl : u = 0 ∨ u = 1 ∨ u = 2 := by omega
  all_goals decide
theorem ex_big {u : Nat → Nat} {N : Nat} (h : nSum u N < mSum u N) : 3 ≤ u (mxO u N) := by
  apply Classical.byContradiction
  intro z
  have : mSum u N ≤ nSum u N := sumN_le (fun s hs => mass_nz (by have := mx_max (u := u) hs; omega))
  omega
theorem massU_pos {u : Nat} (h : 1 ≤ u) : massU u = u - 1 := if_neg (by omega)
/-- taking away -/
theorem tw_inv {u : Nat → Nat} {N M : Nat} (hN : 0 < N) (hn : nSum u N ≤ M) : ∀ j, M + j ≤ mSum u N → mSum (twN N u j) N = mSum u N - j ∧ nSum (twN N u j) N = nSum u N ∧ (∀ s, twN N u j s = 1 ↔ u s = 1) ∧ (∀ s, twN N u j s ≤ u s) ∧ (∀ s, u s = 0 ↔ twN N u j s = 0) := by
  intro j
  induction j with
  | zero => intro _; exact ⟨rfl, rfl, fun s => Iff.rfl, fun s => Nat.le_refl _, fun s => Iff.rfl⟩
  | succ j ih =>
    intro hj
    obtain ⟨h1, h2, h3, h4, h5⟩ := ih (by omega)
    have hb := ex_big (u := twN N u j) (N := N) (by omega)
    have hm := mx_lt (u := twN N u j) hN
    generalize hv : twN N u j = v at h1 h2 h3 h4 h5 hb hm
    have e : twN N u (j + 1) = updN v (mxO v N) (v (mxO v N) - 1) := by
      show twS N (twN N u j) = _
      rw [hv]
      rfl
    generalize hbb : mxO v N = b at hb hm e
    have a1 := sumN_upd massU v b (v b - 1) hm
    have a2 := sumN_upd nzU v b (v b - 1) hm
    have e1 : massU (v b) = v b - 1 := massU_pos (by omega)
    have e2 : massU (v b - 1) = v b - 1 - 1 := massU_pos (by omega)
    have e3 : nzU (v b) = 1 := if_neg (by omega)
    have e4 : nzU (v b - 1) = 1 := if_neg (by omega)
    rw [e1, e2] at a1
    rw [e3, e4] at a2
    refine ⟨?_, ?_, fun s => ?_, fun s => ?_, fun s => ?_⟩
    · show sumN (fun s => massU (twN N u (j + 1) s)) N = _
      rw [e]
      have : sumN (fun s => massU (v s)) N = mSum u N - j := h1
      omega
    · show sumN (fun s => nzU (twN N u (j + 1) s)) N = _
      rw [e]
      have : sumN (fun s => nzU (v s)) N = nSum u N := h2
      omega
    · rw [e, ← h3 s]
      by_cases q : s = b
      · rw [q, updN_s]; omega
      · rw [updN_n q]
    · rw [e]
      by_cases q : s = b
      · rw [q, updN_s]; have := h4 b; omega
      · rw [updN_n q]; exact h4 s
    · rw [e, h5 s]
      by_cases q : s = b
      · rw [q, updN_s]; omega
      · rw [updN_n q]
theorem pick_some {u : Nat → Nat} {r : Nat → Int} : ∀ {N s : Nat}, s < N → 2 ≤ u s → ∃ b, pickO u r N = some b := by
  intro N
  induction N with
  | zero => intro s hs; omega
  | succ N ih =>
    intro s hs h2
    unfold pickO
    cases hp : pickO u r N with
    | none =>
      dsimp only
      by_cases q : s = N
      · rw [if_pos (by rw [← q]; exact h2)]; exact ⟨_, rfl⟩
      · obtain ⟨b, hb⟩ := ih (show s < N by omega) h2
        rw [hp] at hb
        cases hb
    | some c =>
      dsimp only
      by_cases q : 2 ≤ u N ∧ r c < r N
      · rw [if_pos q]; exact ⟨_, rfl⟩
      · rw [if_neg q]; exact ⟨_, rfl⟩
/-- giving more -/
theorem gv_inv {u : Nat → Nat} {r : Nat → Int} {N t s0 : Nat} (h0 : s0 < N) (h2 : 2 ≤ u s0) : ∀ j, mSum (gvN t N (u, r) j).1 N = mSum u N + j ∧ (∀ s, (gvN t N (u, r) j).1 s = 1 ↔ u s = 1) ∧ (∀ s, u s ≤ (gvN t N (u, r) j).1 s) ∧ (∀ s, (gvN t N (u, r) j).1 s = 0 ↔ u s = 0) ∧ (∀ s, (gvN t N (u, r) j).1 s ≤ u s + j) := by
  intro j
  induction j with
  | zero => exact ⟨rfl, fun s => Iff.rfl, fun s => Nat.le_refl _, fun s => Iff.rfl, fun s => Nat.le_refl _⟩
  | succ j ih =>
    obtain ⟨h1, h3, h4, h5, h6⟩ := ih
    generalize hv : gvN t N (u, r) j = v at h1 h3 h4 h5 h6
    obtain ⟨v, w⟩ := v
    have h1 : mSum v N = mSum u N + j := h1
    have h3 : ∀ s, v s = 1 ↔ u s = 1 := h3
    have h4 : ∀ s, u s ≤ v s := h4
    have h5 : ∀ s, v s = 0 ↔ u s = 0 := h5
    have h6 : ∀ s, v s ≤ u s + j := h6
    obtain ⟨b, hb⟩ := pick_some (u := v) (r := w) h0 (by have := h4 s0; omega)
    obtain ⟨hb1, hb2⟩ := pick_lt hb
    have e : gvN t N (u, r) (j + 1) = (updN v b (v b + 1), updZ w b (w b - t)) := by
      show gvS t N (gvN t N (u, r) j) = _
      rw [hv]
      unfold gvS
      dsimp only
      rw [hb]
    rw [e]
    have a1 := sumN_upd massU v b (v b + 1) hb1
    rw [massU_pos (show 1 ≤ v b by omega), massU_pos (show 1 ≤ v b + 1 by omega)] at a1
    refine ⟨?_, fun s => ?_, fun s => ?_, fun s => ?_, fun s => ?_⟩
    · show sumN (fun s => massU (updN v b (v b + 1) s)) N = _
      have : sumN (fun s => massU (v s)) N = mSum u N + j := h1
      omega
    · show updN v b (v b + 1) s = 1 ↔ u s = 1
      rw [← h3 s]
      by_cases q : s = b
      · rw [q, updN_s]; omega
      · rw [updN_n q]
    · show u s ≤ updN v b (v b + 1) s
      by_cases q : s = b
      · rw [q, updN_s]; have := h4 b; omega
      · rw [updN_n q]; exact h4 s
    · show updN v b (v b + 1) s = 0 ↔ u s = 0
      rw [← h5 s]
      by_cases q : s = b
      · rw [q, updN_s]; omega
      · rw [updN_n q]
    · show updN v b (v b + 1) s ≤ u s + (j + 1)
      by_cases q : s = b
      · rw [q, updN_s]; have := h6 b; omega
      · rw [updN_n q]; have := h6 s; omega
def nzC (cnt : Nat → Nat) (N : Nat) : Nat := sumN (fun s => if cnt s = 0 then 0 else 1) N
theorem u0_nz {cnt : Nat → Nat} {t o s : Nat} (e : 0 < t) : nzU (u0F cnt t o s) = if cnt s = 0 then 0 else 1 := by
  unfold u0F nzU
  by_cases q : cnt s = 0
  · rw [if_pos q, if_pos q, if_pos rfl]
  · rw [if_neg q, if_neg q]
    by_cases z : cnt s * 2 ^ o < t
    · rw [if_pos z]; rfl
    · rw [if_neg z]
      have : 1 ≤ cnt s * 2 ^ o / t := (Nat.le_div_iff_mul_le e).mpr (by omega)
      rw [if_neg (by omega)]
theorem ex_share {cnt : Nat → Nat} {N t M : Nat} (ht : sumN cnt N = t) (h0 : 0 < t) (hM : 0 < M) (hn : nzC cnt N ≤ M) : ∃ s, s < N ∧ cnt s ≠ 0 ∧ t ≤ cnt s * M := by
  apply Classical.byContradiction
  intro z
  have h : ∀ s, s < N → cnt s * M ≤ (if cnt s = 0 then 0 else 1) * (t - 1) := by
    intro s hs
    by_cases q : cnt s = 0
    · rw [q, Nat.zero_mul]; exact Nat.zero_le _
    · rw [if_neg q, Nat.one_mul]
      have : ¬ t ≤ cnt s * M := fun y => z ⟨s, hs, q, y⟩
      omega
  have h1 := sumN_le h
  rw [sumN_mul, sumN_mul, ht] at h1
  have h2 : sumN (fun s => if cnt s = 0 then 0 else 1) N * (t - 1) ≤ M * (t - 1) := Nat.mul_le_mul_right _ hn
  have h3 : M * (t - 1) < M * t := Nat.mul_lt_mul_of_pos_left (by omega) hM
  rw [Nat.mul_comm M t] at h3
  omega
