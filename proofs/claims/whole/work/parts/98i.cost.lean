/-! what a row costs, as a function; counts of symbols -/
noncomputable def rcF (u : Nat → Nat) (N o : Nat) (ss : List Nat) : Nat := Classical.epsilon (fun c => ∃ p, RowC u N o ss c p)
theorem rcF_is {u : Nat → Nat} {N o c p : Nat} {ss : List Nat} (h1 : o = 0 ∨ 5 ≤ o) (h2 : o ≤ 9) (hS : mSum u N = 2 ^ o) (h : RowC u N o ss c p) : rcF u N o ss = c := by
  have q : ∃ p, RowC u N o ss (rcF u N o ss) p := Classical.epsilon_spec (p := fun c => ∃ p, RowC u N o ss c p) ⟨c, p, h⟩
  obtain ⟨p2, hp2⟩ := q
  exact (row_uniq h1 h2 hS ss _ _ _ _ hp2 h).1
theorem rcF_pad {u : Nat → Nat} {N M o : Nat} {ss : List Nat} (h : ∀ p, ownF u M o p = ownF u N o p) : rcF u M o ss = rcF u N o ss := by
  unfold rcF
  congr 1
  funext c
  exact propext ⟨fun ⟨p, q⟩ => ⟨p, (row_pad h ss c p).mp q⟩, fun ⟨p, q⟩ => ⟨p, (row_pad h ss c p).mpr q⟩⟩
def cdS (x : (Nat → Nat) × Nat) (s : Nat) : (Nat → Nat) × Nat := (updN x.1 s (x.1 s + 1), x.2 + (if x.1 s = 0 then 1 else 0))
def cdF (ss : List Nat) : (Nat → Nat) × Nat := ss.foldl cdS (fun _ => 0, 0)
theorem cd_fold {N : Nat} : ∀ (ss : List Nat) (x : (Nat → Nat) × Nat), (∀ s, s ∈ ss → s < N) → sumN (ss.foldl cdS x).1 N = sumN x.1 N + ss.length ∧ nzC (ss.foldl cdS x).1 N + x.2 = nzC x.1 N + (ss.foldl cdS x).2 ∧ (∀ s, (ss.foldl cdS x).1 s = x.1 s + ss.count s) := by
  intro ss
  induction ss with
  | nil => intro x _; exact ⟨rfl, rfl, fun s => rfl⟩
  | cons a r ih =>
    intro x h
    obtain ⟨i1, i2, i3⟩ := ih (cdS x a) (fun s hs => h s (List.mem_cons_of_mem _ hs))
    have ha := h a (List.mem_cons_self ..)
    have e1 := sumN_upd (fun y => y) x.1 a (x.1 a + 1) ha
    have e2 := sumN_upd (fun y => if y = 0 then 0 else 1) x.1 a (x.1 a + 1) ha
    have f1 : sumN (cdS x a).1 N = sumN x.1 N + 1 := by
      have e1' : sumN (fun s => updN x.1 a (x.1 a + 1) s) N + x.1 a = sumN (fun s => x.1 s) N + (x.1 a + 1) := e1
      show sumN (fun s => updN x.1 a (x.1 a + 1) s) N = sumN (fun s => x.1 s) N + 1
      omega
    have f2 : nzC (cdS x a).1 N + x.2 = nzC x.1 N + (cdS x a).2 := by
      have e2' : nzC (cdS x a).1 N + (if x.1 a = 0 then 0 else 1) = nzC x.1 N + (if x.1 a + 1 = 0 then 0 else 1) := e2
      show _ = _ + (x.2 + (if x.1 a = 0 then 1 else 0))
      rw [if_neg (show ¬ x.1 a + 1 = 0 by omega)] at e2'
      by_cases z : x.1 a = 0
      · rw [if_pos z] at e2' ⊢; omega
      · rw [if_neg z] at e2' ⊢; omega
    refine ⟨?_, ?_, fun s => ?_⟩
    · show sumN (r.foldl cdS (cdS x a)).1 N = _
      rw [i1, f1, List.length_cons]; omega
    · show nzC (r.foldl cdS (cdS x a)).1 N + x.2 = nzC x.1 N + (r.foldl cdS (cdS x a)).2
      omega
    · show (r.foldl cdS (cdS x a)).1 s = _
      rw [i3 s, List.count_cons]
      show updN x.1 a (x.1 a + 1) s + _ = _
      by_cases z : s = a
      · rw [z, updN_s, if_pos (by simp)]; omega
      · rw [updN_n z, if_neg (by simpa using fun q => z q.symm)]; omega
theorem cd_sum {N : Nat} {ss : List Nat} (h : ∀ s, s ∈ ss → s < N) : sumN (cdF ss).1 N = ss.length := by
  have e : sumN (cdF ss).1 N = sumN (fun _ => 0) N + ss.length := (cd_fold ss (fun _ => 0, 0) h).1
  rw [e, sumN_zero, Nat.zero_add]
theorem cd_nz {N : Nat} {ss : List Nat} (h : ∀ s, s ∈ ss → s < N) : nzC (cdF ss).1 N = (cdF ss).2 := by
  have e : nzC (cdF ss).1 N + 0 = nzC (fun _ => 0) N + (cdF ss).2 := (cd_fold ss (fun _ => 0, 0) h).2.1
  have z : nzC (fun _ => 0) N = 0 := by
    show sumN (fun _ => if 0 = 0 then 0 else 1) N = 0
    exact sumN_zero N
  omega
theorem cd_cnt (ss : List Nat) (s : Nat) : (cdF ss).1 s = ss.count s := by
  have hb : ∃ N, ∀ s, s ∈ ss → s < N := by
    induction ss with
    | nil => exact ⟨0, fun s h => absurd h (List.not_mem_nil)⟩
    | cons a r ih =>
      obtain ⟨N, hN⟩ := ih
      refine ⟨max N (a + 1), fun s h => ?_⟩
      rcases List.mem_cons.mp h with rfl | q
      · omega
      · have := hN s q; omega
  obtain ⟨N, hN⟩ := hb
  have e : (cdF ss).1 s = 0 + ss.count s := (cd_fold ss (fun _ => 0, 0) hN).2.2 s
  omega
theorem col_cd {sy wd : Nat → Nat} : ∀ (vs : List Nat) (x : (Nat → Nat) × Nat × Nat), (vs.foldl (colS sy wd) x).1 = ((vs.map sy).foldl cdS (x.1, x.2.1)).1 ∧ (vs.foldl (colS sy wd) x).2.1 = ((vs.map sy).foldl cdS (x.1, x.2.1)).2 := by
  intro vs
  induction vs with
  | nil => intro x; exact ⟨rfl, rfl⟩
  | cons v r ih =>
    intro x
    have q := ih (colS sy wd x v)
    exact q
theorem colF_1 (sy wd : Nat → Nat) (vs : List Nat) : (colF sy wd vs).1 = (cdF (vs.map sy)).1 := (col_cd vs (fun _ => 0, 0, 0)).1
theorem colF_2 (sy wd : Nat → Nat) (vs : List Nat) : (colF sy wd vs).2.1 = (cdF (vs.map sy)).2 := (col_cd vs (fun _ => 0, 0, 0)).2
theorem cd_snoc (ss : List Nat) (a : Nat) : cdF (ss ++ [a]) = cdS (cdF ss) a := List.foldl_append
theorem cd_take {ss : List Nat} {i : Nat} (h : i < ss.length) : cdF (ss.take (i + 1)) = cdS (cdF (ss.take i)) (ss.getD i 0) := by
  rw [List.take_succ_eq_append_getElem h, cd_snoc, List.getD_eq_getElem?_getD, List.getElem?_eq_getElem h]
  rfl
theorem getD_mem {ss : List Nat} {i : Nat} (h : i < ss.length) : ss.getD i 0 ∈ ss := by
  rw [List.getD_eq_getElem?_getD, List.getElem?_eq_getElem h]
  exact List.getElem_mem h
theorem mem_getD {ss : List Nat} {a : Nat} (h : a ∈ ss) : ∃ i, i < ss.length ∧ ss.getD i 0 = a := by
  obtain ⟨i, hi, e⟩ := List.mem_iff_getElem.mp h
  exact ⟨i, hi, by rw [List.getD_eq_getElem?_getD, List.getElem?_eq_getElem hi]; exact e⟩
theorem cd_pos {ss : List Nat} {s : Nat} : (cdF ss).1 s ≠ 0 ↔ s ∈ ss := by
  rw [cd_cnt]
  exact ⟨fun h => List.count_pos_iff.mp (Nat.pos_of_ne_zero h), fun h => Nat.pos_iff_ne_zero.mp (List.count_pos_iff.mpr h)⟩
theorem row_ex {u : Nat → Nat} {N o : Nat} (ho5 : o = 0 ∨ 5 ≤ o) (ho : o ≤ 9) (hS : mSum u N = 2 ^ o) : ∀ (ss : List Nat), ss ≠ [] → (∀ s, s ∈ ss → s < N ∧ massU (u s) ≠ 0) → ∃ c p, RowC u N o ss c p ∧ p < 2 ^ o ∧ o ≤ c := by
  intro ss
  induction ss with
  | nil => intro h; exact absurd rfl h
  | cons a r ih =>
    intro _ h
    obtain ⟨ha, hm⟩ := h a (List.mem_cons_self ..)
    cases r with
    | nil =>
      obtain ⟨p, p1, p2, p3⟩ := plc ho5 ho hS ha (show 0 < massU (u a) by omega)
      exact ⟨o, p, ⟨⟨p1, p2, p3⟩, rfl⟩, p1, Nat.le_refl _⟩
    | cons t r =>
      obtain ⟨c, p, q1, q2, q3⟩ := ih (by simp) (fun s hs => h s (List.mem_cons_of_mem _ hs))
      obtain ⟨p2, W, hN⟩ := nx_ex ho5 ho hS ha hm q2
      exact ⟨c + W, p2, ⟨c, p, W, q1, hN, rfl⟩, (nx_lt hN).1, by omega⟩
theorem rcF_ge {u : Nat → Nat} {N o : Nat} {ss : List Nat} (ho5 : o = 0 ∨ 5 ≤ o) (ho : o ≤ 9) (hS : mSum u N = 2 ^ o) (h0 : ss ≠ []) (h : ∀ s, s ∈ ss → s < N ∧ massU (u s) ≠ 0) : o ≤ rcF u N o ss := by
  obtain ⟨c, p, q1, -, q3⟩ := row_ex ho5 ho hS ss h0 h
  rw [rcF_is ho5 ho hS q1]
  exact q3
