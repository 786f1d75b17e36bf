/-! symbols without points at the end change nothing -/
theorem pick_pad {u : Nat → Nat} {r : Nat → Int} {N : Nat} (h : u N = 1) : pickO u r (N + 1) = pickO u r N := by
  show (match pickO u r N with
    | none => if 2 ≤ u N then some N else none
    | some b => if 2 ≤ u N ∧ r b < r N then some N else some b) = pickO u r N
  cases pickO u r N with
  | none => exact if_neg (by omega)
  | some b => exact if_neg (by omega)
theorem gv_pad {u : Nat → Nat} {r : Nat → Int} {N t : Nat} : ∀ j, (∀ i, i < j → (gvN t N (u, r) i).1 N = 1) → gvN t (N + 1) (u, r) j = gvN t N (u, r) j := by
  intro j
  induction j with
  | zero => intro _; rfl
  | succ j ih =>
    intro h
    show gvS t (N + 1) (gvN t (N + 1) (u, r) j) = gvS t N (gvN t N (u, r) j)
    rw [ih (fun i hi => h i (by omega))]
    unfold gvS
    rw [pick_pad (h j (by omega))]
theorem tw_pad {u : Nat → Nat} {N : Nat} : ∀ j, (∀ i, i < j → twN N u i N = 1 ∧ 1 ≤ twN N u i (mxO (twN N u i) N)) → twN (N + 1) u j = twN N u j := by
  intro j
  induction j with
  | zero => intro _; rfl
  | succ j ih =>
    intro h
    show twS (N + 1) (twN (N + 1) u j) = twS N (twN N u j)
    rw [ih (fun i hi => h i (by omega))]
    have e : mxO (twN N u j) (N + 1) = mxO (twN N u j) N := by
      show (if twN N u j (mxO (twN N u j) N) < twN N u j N then N else mxO (twN N u j) N) = _
      exact if_neg (by have := h j (by omega); omega)
    unfold twS
    rw [e]
theorem wU_pad1 {cnt : Nat → Nat} {o N : Nat} (hN : 0 < N) (ht : 0 < sumN cnt N) (hn : nzC cnt N ≤ 2 ^ o) (hc : cnt N = 0) : wU cnt o (N + 1) = wU cnt o N ∧ sumN cnt (N + 1) = sumN cnt N ∧ nzC cnt (N + 1) = nzC cnt N := by
  have e1 : sumN cnt (N + 1) = sumN cnt N := by show sumN cnt N + cnt N = _; rw [hc, Nat.add_zero]
  have e2 : nzC cnt (N + 1) = nzC cnt N := by show sumN _ N + (if cnt N = 0 then 0 else 1) = _; rw [if_pos hc]; rfl
  have hu1 : u0F cnt (sumN cnt N) o N = 1 := (u0_one ht).mpr hc
  have e3 : mSum (u0F cnt (sumN cnt N) o) (N + 1) = mSum (u0F cnt (sumN cnt N) o) N := by
    show mSum _ N + massU (u0F cnt (sumN cnt N) o N) = _
    rw [hu1]; rfl
  refine ⟨?_, e1, e2⟩
  unfold wU
  rw [e1, e3]
  by_cases c : mSum (u0F cnt (sumN cnt N) o) N < 2 ^ o
  · rw [if_pos c, if_pos c]
    obtain ⟨s0, q1, q2, q3⟩ := ex_share (M := 2 ^ o) rfl ht (Nat.pow_pos (by decide)) hn
    have q4 : 2 ≤ u0F cnt (sumN cnt N) o s0 := by
      unfold u0F
      rw [if_neg q2, if_neg (by omega)]
      have : 0 < cnt s0 * 2 ^ o / sumN cnt N := Nat.div_pos q3 ht
      omega
    rw [gv_pad _ (fun i hi => ((gv_inv (t := sumN cnt N) (r := fun s => ((cnt s * 2 ^ o % sumN cnt N : Nat) : Int)) q1 q4 i).2.1 N).mpr hu1)]
  · rw [if_neg c, if_neg c]
    have hi := tw_inv (u := u0F cnt (sumN cnt N) o) (M := 2 ^ o) hN (by rw [u0_sum ht]; exact hn)
    refine tw_pad _ (fun i hi2 => ?_)
    obtain ⟨h1, h2, h3, h4, h5⟩ := hi i (by omega)
    refine ⟨(h3 N).mpr hu1, ?_⟩
    have hb := ex_big (u := twN N (u0F cnt (sumN cnt N) o) i) (N := N) (by have := u0_sum (cnt := cnt) (t := sumN cnt N) (o := o) (N := N) ht; omega)
    omega
theorem wU_pad {cnt : Nat → Nat} {o N : Nat} (hN : 0 < N) (ht : 0 < sumN cnt N) (hn : nzC cnt N ≤ 2 ^ o) : ∀ k, (∀ s, N ≤ s → s < N + k → cnt s = 0) → wU cnt o (N + k) = wU cnt o N ∧ sumN cnt (N + k) = sumN cnt N ∧ nzC cnt (N + k) = nzC cnt N := by
  intro k
  induction k with
  | zero => intro _; exact ⟨rfl, rfl, rfl⟩
  | succ k ih =>
    intro h
    obtain ⟨a, b, c⟩ := ih (fun s h1 h2 => h s h1 (by omega))
    obtain ⟨a2, b2, c2⟩ := wU_pad1 (cnt := cnt) (o := o) (N := N + k) (by omega) (by omega) (by omega) (h _ (by omega) (by omega))
    exact ⟨a2.trans a, b2.trans b, c2.trans c⟩
theorem low_lt {o hi p : Nat} (h1 : o = 0 ∨ 5 ≤ o) (h2 : o ≤ 9) (hh : hi ≤ 2 ^ o) (hp : p < hi) : lowc o hi (wki o p) < hi := by
  have hpo : p < 2 ^ o := by omega
  have e := lowc_all h1 h2 hi hh
  have m : lowc o hi (wki o p + 1) ≤ lowc o hi (2 ^ o) := sumN_mono _ (wki_lt o p)
  have s : lowc o hi (wki o p + 1) = lowc o hi (wki o p) + (if wk o (wki o p) < hi then 1 else 0) := rfl
  rw [wk_wki h1 h2 hpo, if_pos hp] at s
  omega
theorem own_pad1 {u : Nat → Nat} {N o p : Nat} (h1 : o = 0 ∨ 5 ≤ o) (h2 : o ≤ 9) (hS : mSum u N = 2 ^ o) (hu : u N = 1) : ownF u (N + 1) o p = ownF u N o p := by
  have e1 : cumU u (N + 1) = cumU u N := by show cumU u N + (u N - 1) = _; rw [hu]; rfl
  have hc := cum_neg u N
  unfold ownF
  rw [e1]
  by_cases c : p < cumU u N
  · rw [if_pos c, if_pos c]
    show (if cumU u N ≤ _ then N else lsR u _ N) = _
    exact if_neg (by have := low_lt h1 h2 (show cumU u N ≤ 2 ^ o by omega) c; omega)
  · rw [if_neg c, if_neg c]
    show (if u N = 0 ∧ _ then N else hiR u _ N) = _
    exact if_neg (by omega)
theorem own_pad {u : Nat → Nat} {N o : Nat} (h1 : o = 0 ∨ 5 ≤ o) (h2 : o ≤ 9) (hS : mSum u N = 2 ^ o) : ∀ k, (∀ s, N ≤ s → s < N + k → u s = 1) → mSum u (N + k) = 2 ^ o ∧ ∀ p, ownF u (N + k) o p = ownF u N o p := by
  intro k
  induction k with
  | zero => intro _; exact ⟨hS, fun _ => rfl⟩
  | succ k ih =>
    intro h
    obtain ⟨a, b⟩ := ih (fun s q1 q2 => h s q1 (by omega))
    have hu := h (N + k) (by omega) (by omega)
    refine ⟨?_, fun p => (own_pad1 h1 h2 a hu).trans (b p)⟩
    show mSum u (N + k) + massU (u (N + k)) = _
    rw [a, hu]; rfl
theorem rk_pad {u : Nat → Nat} {N M o : Nat} (h : ∀ p, ownF u M o p = ownF u N o p) (s p : Nat) : rkF u M o s p = rkF u N o s p := sumN_eq (fun x _ => by rw [h x])
theorem low_pad {u : Nat → Nat} {N M o s p : Nat} (h : ∀ p, ownF u M o p = ownF u N o p) : IsLow u M o s p ↔ IsLow u N o s p := by
  unfold IsLow
  rw [h p, rk_pad h]
theorem nx_pad {u : Nat → Nat} {N M o s st p W : Nat} (h : ∀ p, ownF u M o p = ownF u N o p) : IsNx u M o s st p W ↔ IsNx u N o s st p W := by
  unfold IsNx
  rw [h p, rk_pad h]
theorem row_pad {u : Nat → Nat} {N M o : Nat} (h : ∀ p, ownF u M o p = ownF u N o p) : ∀ (l : List Nat) (c p : Nat), RowC u M o l c p ↔ RowC u N o l c p := by
  intro l
  induction l with
  | nil => intro c p; exact Iff.rfl
  | cons s l ih =>
    intro c p
    cases l with
    | nil => show (IsLow u M o s p ∧ _) ↔ (IsLow u N o s p ∧ _); rw [low_pad h]
    | cons t r =>
      constructor
      · rintro ⟨c2, p2, W, a, b, e⟩
        exact ⟨c2, p2, W, (ih c2 p2).mp a, (nx_pad h).mp b, e⟩
      · rintro ⟨c2, p2, W, a, b, e⟩
        exact ⟨c2, p2, W, (ih c2 p2).mpr a, (nx_pad h).mpr b, e⟩
