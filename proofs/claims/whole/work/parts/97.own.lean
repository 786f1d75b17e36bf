/-! how many places a symbol owns: its mass -/
def isE (a b : Nat) : Nat := if a = b then 1 else 0
theorem sumN_zero : ∀ M, sumN (fun _ => 0) M = 0 := by
  intro M
  induction M with
  | zero => rfl
  | succ M ih => show sumN (fun _ => 0) M + 0 = 0; omega
theorem sumN_swap (f : Nat → Nat → Nat) (M : Nat) : ∀ N, sumN (fun x => sumN (f x) M) N = sumN (fun y => sumN (fun x => f x y) N) M := by
  intro N
  induction N with
  | zero => exact (sumN_zero M).symm
  | succ N ih =>
    show sumN (fun x => sumN (f x) M) N + sumN (f N) M = sumN (fun y => sumN (fun x => f x y) N + f N y) M
    rw [sumN_add, ih]
theorem sumN_pick (f : Nat → Nat) {a : Nat} : ∀ {N : Nat}, a < N → sumN (fun x => f x * isE a x) N = f a := by
  intro N
  induction N with
  | zero => intro h; omega
  | succ N ih =>
    intro h
    show sumN (fun x => f x * isE a x) N + f N * isE a N = f a
    unfold isE at ih ⊢
    by_cases q : a = N
    · have : sumN (fun x => f x * (if a = x then 1 else 0)) N = sumN (fun _ => 0) N := sumN_eq (fun s hs => by rw [if_neg (by omega), Nat.mul_zero])
      rw [this, sumN_zero, if_pos q, Nat.mul_one, q]
      omega
    · rw [ih (by omega), if_neg q, Nat.mul_zero]
      omega
/-- a walk through all the places counts each of them once -/
theorem sum_walk {o : Nat} (h1 : o = 0 ∨ 5 ≤ o) (h2 : o ≤ 9) (f : Nat → Nat) : sumN (fun k => f (wk o k)) (2 ^ o) = sumN f (2 ^ o) := by
  have a : sumN (fun k => f (wk o k)) (2 ^ o) = sumN (fun k => sumN (fun p => f p * isE (wk o k) p) (2 ^ o)) (2 ^ o) := sumN_eq (fun k hk => (sumN_pick f (wk_lt o k)).symm)
  rw [a, sumN_swap]
  apply sumN_eq
  intro p hp
  have b : sumN (fun x => f p * isE (wk o x) p) (2 ^ o) = sumN (fun x => (fun _ => f p) x * isE (wki o p) x) (2 ^ o) := by
    apply sumN_eq
    intro k hk
    show f p * isE (wk o k) p = f p * isE (wki o p) k
    unfold isE
    by_cases q : wk o k = p
    · rw [if_pos q, if_pos (by rw [← q, wki_wk h1 h2 hk])]
    · rw [if_neg q, if_neg (fun z => q (by rw [← z, wk_wki h1 h2 hp]))]
  rw [b]
  exact sumN_pick (fun _ => f p) (wki_lt o p)
theorem sumN_split (f : Nat → Nat) (a : Nat) : ∀ b, sumN f (a + b) = sumN f a + sumN (fun x => f (a + x)) b := by
  intro b
  induction b with
  | zero => rfl
  | succ b ih =>
    show sumN f (a + b) + f (a + b) = sumN f a + (sumN (fun x => f (a + x)) b + f (a + b))
    omega
theorem lsR_ex {u : Nat → Nat} {c : Nat} : ∀ {N : Nat}, c < cumU u N → ∃ s, s < N ∧ cumU u s ≤ c ∧ c < cumU u (s + 1) := by
  intro N
  induction N with
  | zero => intro h; exact absurd h (Nat.not_lt_zero _)
  | succ N ih =>
    intro h
    rcases Nat.lt_or_ge c (cumU u N) with z | z
    · obtain ⟨s, a, b⟩ := ih z
      exact ⟨s, by omega, b⟩
    · exact ⟨N, by omega, z, h⟩
/-- units up to c that belong to s -/
theorem units {u : Nat → Nat} {N s : Nat} (hs : s < N) : ∀ c, c ≤ cumU u N → sumN (fun x => isE (lsR u x N) s) c = min c (cumU u (s + 1)) - min c (cumU u s) := by
  intro c
  induction c with
  | zero => intro _; show 0 = _; omega
  | succ c ih =>
    intro hc
    have i1 := ih (by omega)
    show sumN (fun x => isE (lsR u x N) s) c + isE (lsR u c N) s = _
    obtain ⟨x, x1, x2, x3⟩ := lsR_ex (u := u) (c := c) (N := N) (by omega)
    have e := lsR_is x2 x3 N x1
    have hm : cumU u s ≤ cumU u (s + 1) := sumN_mono _ (by omega)
    rw [i1, e]
    unfold isE
    by_cases q : x = s
    · rw [if_pos q]
      rw [q] at x2 x3
      omega
    · rw [if_neg q]
      rcases Nat.lt_or_ge x s with z | z
      · have : cumU u (x + 1) ≤ cumU u s := sumN_mono _ (by omega)
        omega
      · have : cumU u (s + 1) ≤ cumU u x := sumN_mono _ (by omega)
        omega
theorem low_units {o hi : Nat} (g : Nat → Nat) : ∀ k, sumN (fun x => if wk o x < hi then g (lowc o hi x) else 0) k = sumN g (lowc o hi k) := by
  intro k
  induction k with
  | zero => rfl
  | succ k ih =>
    show sumN (fun x => if wk o x < hi then g (lowc o hi x) else 0) k + (if wk o k < hi then g (lowc o hi k) else 0) = _
    have e : lowc o hi (k + 1) = lowc o hi k + (if wk o k < hi then 1 else 0) := rfl
    rw [e, ih]
    by_cases q : wk o k < hi
    · rw [if_pos q, if_pos q]
      rfl
    · rw [if_neg q, if_neg q]
      rfl
theorem neg_ex {u : Nat → Nat} {j : Nat} : ∀ {N : Nat}, j < negU u N → ∃ x, x < N ∧ u x = 0 ∧ negU u x = j := by
  intro N
  induction N with
  | zero => intro h; exact absurd h (Nat.not_lt_zero _)
  | succ N ih =>
    intro h
    have e : negU u (N + 1) = negU u N + (if u N = 0 then 1 else 0) := rfl
    rcases Nat.lt_or_ge j (negU u N) with z | z
    · obtain ⟨x, a, b⟩ := ih z
      exact ⟨x, by omega, b⟩
    · by_cases q : u N = 0
      · rw [if_pos q] at e
        exact ⟨N, by omega, q, by omega⟩
      · rw [if_neg q] at e
        omega
theorem neg_units {u : Nat → Nat} {N s : Nat} (hs : s < N) : sumN (fun j => isE (hiR u j N) s) (negU u N) = if u s = 0 then 1 else 0 := by
  by_cases q : u s = 0
  · rw [if_pos q]
    have hlt : negU u s < negU u N := by
      have h1 : negU u (s + 1) ≤ negU u N := sumN_mono _ (by omega)
      have h2 : negU u (s + 1) = negU u s + (if u s = 0 then 1 else 0) := rfl
      rw [if_pos q] at h2
      omega
    have e : sumN (fun j => isE (hiR u j N) s) (negU u N) = sumN (fun j => (fun _ => 1) j * isE (negU u s) j) (negU u N) := by
      apply sumN_eq
      intro j hj
      obtain ⟨x, x1, x2, x3⟩ := neg_ex hj
      show isE (hiR u j N) s = 1 * isE (negU u s) j
      rw [← x3, hiR_is x2 N x1, Nat.one_mul]
      unfold isE
      by_cases z : x = s
      · rw [if_pos z, z, if_pos rfl]
      · rw [if_neg z, if_neg (fun y => z ?_)]
        rcases Nat.lt_trichotomy x s with w | w | w
        · have h1 : negU u (x + 1) ≤ negU u s := sumN_mono _ (by omega)
          have h2 : negU u (x + 1) = negU u x + (if u x = 0 then 1 else 0) := rfl
          rw [if_pos x2] at h2
          omega
        · exact w
        · have h1 : negU u (s + 1) ≤ negU u x := sumN_mono _ (by omega)
          have h2 : negU u (s + 1) = negU u s + (if u s = 0 then 1 else 0) := rfl
          rw [if_pos q] at h2
          omega
    rw [e]
    exact sumN_pick (fun _ => 1) hlt
  · rw [if_neg q]
    have e : sumN (fun j => isE (hiR u j N) s) (negU u N) = sumN (fun _ => 0) (negU u N) := by
      apply sumN_eq
      intro j hj
      obtain ⟨x, x1, x2, x3⟩ := neg_ex hj
      show isE (hiR u j N) s = 0
      rw [← x3, hiR_is x2 N x1]
      exact if_neg (fun z => q (by rw [← z]; exact x2))
    rw [e, sumN_zero]
theorem sumN_rev (f : Nat → Nat) : ∀ n, sumN (fun x => f (n - 1 - x)) n = sumN f n := by
  intro n
  induction n with
  | zero => rfl
  | succ n ih =>
    have e := sumN_split (fun x => f (n + 1 - 1 - x)) 1 n
    rw [show 1 + n = n + 1 by omega] at e
    rw [e]
    show (0 + f (n + 1 - 1 - 0)) + sumN (fun x => f (n + 1 - 1 - (1 + x))) n = sumN f n + f n
    have e2 : sumN (fun x => f (n + 1 - 1 - (1 + x))) n = sumN (fun x => f (n - 1 - x)) n := sumN_eq (fun x hx => by rw [show n + 1 - 1 - (1 + x) = n - 1 - x by omega])
    rw [e2, ih, show n + 1 - 1 - 0 = n by omega]
    omega
theorem own_lt {u : Nat → Nat} {N o p : Nat} (h1 : o = 0 ∨ 5 ≤ o) (h2 : o ≤ 9) (hS : mSum u N = 2 ^ o) (hp : p < 2 ^ o) : ownF u N o p < N := by
  have hcn := cum_neg u N
  unfold ownF
  by_cases q : p < cumU u N
  · rw [if_pos q]
    have hk := wki_lt o p
    have hlt : lowc o (cumU u N) (wki o p) < cumU u N := by
      have a := lowc_all h1 h2 (cumU u N) (by omega)
      have b := sumN_mono (fun x => if wk o x < cumU u N then 1 else 0) (show wki o p + 1 ≤ 2 ^ o by omega)
      have c : lowc o (cumU u N) (wki o p + 1) = lowc o (cumU u N) (wki o p) + (if wk o (wki o p) < cumU u N then 1 else 0) := rfl
      rw [wk_wki h1 h2 hp, if_pos q] at c
      unfold lowc at a b c ⊢
      omega
    obtain ⟨s, s1, s2, s3⟩ := lsR_ex hlt
    rw [lsR_is s2 s3 N s1]
    exact s1
  · rw [if_neg q]
    obtain ⟨x, x1, x2, x3⟩ := neg_ex (u := u) (N := N) (j := 2 ^ o - 1 - p) (by omega)
    rw [← x3, hiR_is x2 N x1]
    exact x1
theorem own_mass {u : Nat → Nat} {N o s : Nat} (h1 : o = 0 ∨ 5 ≤ o) (h2 : o ≤ 9) (hS : mSum u N = 2 ^ o) (hs : s < N) : sumN (fun p => isE (ownF u N o p) s) (2 ^ o) = massU (u s) := by
  have hcn := cum_neg u N
  have hall := lowc_all h1 h2 (cumU u N) (by omega)
  have e1 : sumN (fun p => isE (ownF u N o p) s) (2 ^ o) = sumN (fun p => (if p < cumU u N then isE (ownF u N o p) s else 0) + (if p < cumU u N then 0 else isE (ownF u N o p) s)) (2 ^ o) := by
    apply sumN_eq
    intro p hp
    by_cases q : p < cumU u N
    · rw [if_pos q, if_pos q]; omega
    · rw [if_neg q, if_neg q]; omega
  rw [e1, sumN_add]
  have e2 : sumN (fun p => if p < cumU u N then isE (ownF u N o p) s else 0) (2 ^ o) = u s - 1 := by
    rw [← sum_walk h1 h2 (fun p => if p < cumU u N then isE (ownF u N o p) s else 0)]
    have e3 : sumN (fun k => (fun p => if p < cumU u N then isE (ownF u N o p) s else 0) (wk o k)) (2 ^ o) = sumN (fun x => if wk o x < cumU u N then (fun c => isE (lsR u c N) s) (lowc o (cumU u N) x) else 0) (2 ^ o) := by
      apply sumN_eq
      intro k hk
      show (if wk o k < cumU u N then isE (ownF u N o (wk o k)) s else 0) = (if wk o k < cumU u N then isE (lsR u (lowc o (cumU u N) k) N) s else 0)
      by_cases q : wk o k < cumU u N
      · rw [if_pos q, if_pos q]
        unfold ownF
        rw [if_pos q, wki_wk h1 h2 hk]
      · rw [if_neg q, if_neg q]
    rw [e3]
    refine (low_units (o := o) (hi := cumU u N) (fun c => isE (lsR u c N) s) (2 ^ o)).trans ?_
    rw [hall, units hs _ (Nat.le_refl _)]
    have a : cumU u (s + 1) ≤ cumU u N := sumN_mono _ (by omega)
    have b : cumU u s ≤ cumU u N := sumN_mono _ (by omega)
    have c : cumU u (s + 1) = cumU u s + (u s - 1) := rfl
    omega
  have e4 : sumN (fun p => if p < cumU u N then 0 else isE (ownF u N o p) s) (2 ^ o) = if u s = 0 then 1 else 0 := by
    have e5 := sumN_split (fun p => if p < cumU u N then 0 else isE (ownF u N o p) s) (cumU u N) (negU u N)
    rw [show cumU u N + negU u N = 2 ^ o by omega] at e5
    have e6 : sumN (fun p => if p < cumU u N then 0 else isE (ownF u N o p) s) (cumU u N) = sumN (fun _ => 0) (cumU u N) := sumN_eq (fun p hp => by rw [if_pos hp])
    have e7 : sumN (fun x => (fun p => if p < cumU u N then 0 else isE (ownF u N o p) s) (cumU u N + x)) (negU u N) = sumN (fun x => (fun j => isE (hiR u j N) s) (negU u N - 1 - x)) (negU u N) := by
      apply sumN_eq
      intro x hx
      show (if cumU u N + x < cumU u N then 0 else isE (ownF u N o (cumU u N + x)) s) = isE (hiR u (negU u N - 1 - x) N) s
      rw [if_neg (by omega)]
      unfold ownF
      rw [if_neg (by omega), show 2 ^ o - 1 - (cumU u N + x) = negU u N - 1 - x by omega]
    rw [e5, e6, sumN_zero, e7, sumN_rev (fun j => isE (hiR u j N) s), neg_units hs]
    omega
  rw [e2, e4]
  unfold massU
  by_cases q : u s = 0
  · rw [if_pos q, if_pos q]; omega
  · rw [if_neg q, if_neg q]; omega
