/-! the places of a share: who owns them -/
def stp (o : Nat) : Nat := 2 ^ o / 2 + 2 ^ o / 8 + 3
def wk (o k : Nat) : Nat := (k * stp o) % 2 ^ o
def invO (o : Nat) : Nat := if o = 5 then 7 else if o = 6 then 3 else if o = 7 then 91 else if o = 8 then 11 else 363
def wki (o p : Nat) : Nat := (p * invO o) % 2 ^ o
theorem stp_inv {o : Nat} (h1 : 5 ≤ o) (h2 : o ≤ 9) : (stp o * invO o) % 2 ^ o = 1 := by
  obtain rfl | rfl | rfl | rfl | rfl : o = 5 ∨ o = 6 ∨ o = 7 ∨ o = 8 ∨ o = 9 := by omega
  all_goals decide
theorem mulmod1 {S a b p : Nat} (h : (a * b) % S = 1) (hp : p < S) : (p * b % S * a) % S = p := by
  rw [Nat.mod_mul_mod, Nat.mul_assoc, Nat.mul_comm b a, Nat.mul_mod, h, Nat.mul_one, Nat.mod_mod, Nat.mod_eq_of_lt hp]
theorem wk_wki {o p : Nat} (h1 : o = 0 ∨ 5 ≤ o) (h2 : o ≤ 9) (hp : p < 2 ^ o) : wk o (wki o p) = p := by
  rcases h1 with rfl | h1
  · have : wk 0 (wki 0 p) < 2 ^ 0 := Nat.mod_lt _ (by decide)
    omega
  · exact mulmod1 (stp_inv h1 h2) hp
theorem wki_wk {o k : Nat} (h1 : o = 0 ∨ 5 ≤ o) (h2 : o ≤ 9) (hk : k < 2 ^ o) : wki o (wk o k) = k := by
  rcases h1 with rfl | h1
  · have : wki 0 (wk 0 k) < 2 ^ 0 := Nat.mod_lt _ (by decide)
    omega
  · exact mulmod1 (by rw [Nat.mul_comm]; exact stp_inv h1 h2) hk
theorem wk_lt (o k : Nat) : wk o k < 2 ^ o := Nat.mod_lt _ (Nat.pow_pos (by decide))
theorem wki_lt (o k : Nat) : wki o k < 2 ^ o := Nat.mod_lt _ (Nat.pow_pos (by decide))
theorem wk_step (o k : Nat) : (wk o k + stp o) % 2 ^ o = wk o (k + 1) := by
  unfold wk
  rw [Nat.mod_add_mod, Nat.add_mul, Nat.one_mul]
def cumU (u : Nat → Nat) (s : Nat) : Nat := sumN (fun x => u x - 1) s
def negU (u : Nat → Nat) (s : Nat) : Nat := sumN (fun x => if u x = 0 then 1 else 0) s
theorem cum_neg (u : Nat → Nat) : ∀ s, cumU u s + negU u s = mSum u s := by
  intro s
  induction s with
  | zero => rfl
  | succ s ih =>
    show sumN (fun x => u x - 1) s + (u s - 1) + (sumN (fun x => if u x = 0 then 1 else 0) s + (if u s = 0 then 1 else 0)) = sumN (fun x => massU (u x)) s + massU (u s)
    have ih : sumN (fun x => u x - 1) s + sumN (fun x => if u x = 0 then 1 else 0) s = sumN (fun x => massU (u x)) s := ih
    unfold massU at ih ⊢
    by_cases q : u s = 0
    · rw [if_pos q, if_pos q]; omega
    · rw [if_neg q, if_neg q]; omega
theorem sumN_mono (f : Nat → Nat) : ∀ {a b : Nat}, a ≤ b → sumN f a ≤ sumN f b := by
  intro a b h
  induction b with
  | zero => rw [show a = 0 by omega]; exact Nat.le_refl _
  | succ b ih =>
    by_cases q : a = b + 1
    · rw [q]; exact Nat.le_refl _
    · have := ih (by omega)
      show sumN f a ≤ sumN f b + f b
      omega
def lsR (u : Nat → Nat) (c : Nat) : Nat → Nat
  | 0 => 0
  | i + 1 => if cumU u i ≤ c then i else lsR u c i
theorem lsR_is {u : Nat → Nat} {c s : Nat} (h1 : cumU u s ≤ c) (h2 : c < cumU u (s + 1)) : ∀ N, s < N → lsR u c N = s := by
  intro N
  induction N with
  | zero => intro h; omega
  | succ N ih =>
    intro h
    unfold lsR
    by_cases q : s = N
    · rw [if_pos (by rw [← q]; exact h1), q]
    · have : cumU u (s + 1) ≤ cumU u N := sumN_mono _ (by omega)
      rw [if_neg (by omega)]
      exact ih (by omega)
def hiR (u : Nat → Nat) (j : Nat) : Nat → Nat
  | 0 => 0
  | i + 1 => if u i = 0 ∧ negU u i = j then i else hiR u j i
theorem hiR_is {u : Nat → Nat} {x : Nat} (hx : u x = 0) : ∀ N, x < N → hiR u (negU u x) N = x := by
  intro N
  induction N with
  | zero => intro h; omega
  | succ N ih =>
    intro h
    unfold hiR
    by_cases q : x = N
    · rw [if_pos ⟨by rw [← q]; exact hx, by rw [q]⟩, q]
    · have h1 : negU u (x + 1) ≤ negU u N := sumN_mono _ (by omega)
      have h2 : negU u (x + 1) = negU u x + (if u x = 0 then 1 else 0) := rfl
      rw [if_pos hx] at h2
      rw [if_neg (fun z => by have := z.2; omega)]
      exact ih (by omega)
def lowc (o hi k : Nat) : Nat := sumN (fun x => if wk o x < hi then 1 else 0) k
theorem sumN_one {f : Nat → Nat} {a : Nat} : ∀ {N : Nat}, a < N → (∀ x, f x = if x = a then 1 else 0) → sumN f N = 1 := by
  intro N
  induction N with
  | zero => intro h; omega
  | succ N ih =>
    intro h hf
    show sumN f N + f N = 1
    by_cases q : a = N
    · have : sumN f N = sumN (fun _ => 0) N := sumN_eq (fun s hs => by rw [hf s, if_neg (by omega)])
      have z : sumN (fun _ => 0) N = 0 := by
        have : ∀ M, sumN (fun _ => 0) M = 0 := by
          intro M
          induction M with
          | zero => rfl
          | succ M ihM => show sumN (fun _ => 0) M + 0 = 0; omega
        exact this N
      rw [this, z, hf N, if_pos q.symm]
    · rw [ih (by omega) hf, hf N, if_neg (fun z => q z.symm)]
theorem sumN_add (f g : Nat → Nat) : ∀ N, sumN (fun x => f x + g x) N = sumN f N + sumN g N := by
  intro N
  induction N with
  | zero => rfl
  | succ N ih =>
    show sumN (fun x => f x + g x) N + (f N + g N) = sumN f N + f N + (sumN g N + g N)
    omega
theorem lowc_all {o : Nat} (h1 : o = 0 ∨ 5 ≤ o) (h2 : o ≤ 9) : ∀ hi, hi ≤ 2 ^ o → lowc o hi (2 ^ o) = hi := by
  intro hi
  induction hi with
  | zero =>
    intro _
    have : lowc o 0 (2 ^ o) ≤ sumN (fun _ => 0) (2 ^ o) := sumN_le (fun s hs => by rw [if_neg (by omega)]; exact Nat.le_refl _)
    have z : ∀ M, sumN (fun _ => 0) M = 0 := by
      intro M
      induction M with
      | zero => rfl
      | succ M ihM => show sumN (fun _ => 0) M + 0 = 0; omega
    rw [z] at this
    omega
  | succ hi ih =>
    intro h
    have e1 : lowc o (hi + 1) (2 ^ o) = sumN (fun x => (if wk o x < hi then 1 else 0) + (if wk o x = hi then 1 else 0)) (2 ^ o) := by
      apply sumN_eq
      intro s hs
      by_cases q : wk o s < hi
      · rw [if_pos (by omega), if_pos q, if_neg (by omega)]
      · by_cases z : wk o s = hi
        · rw [if_pos (by omega), if_neg q, if_pos z]
        · rw [if_neg (by omega), if_neg q, if_neg z]
    have e2 : sumN (fun x => if wk o x = hi then 1 else 0) (2 ^ o) = 1 := by
      have e3 : sumN (fun x => if wk o x = hi then 1 else 0) (2 ^ o) = sumN (fun x => if x = wki o hi then 1 else 0) (2 ^ o) := by
        apply sumN_eq
        intro s hs
        by_cases q : wk o s = hi
        · rw [if_pos q, if_pos (by rw [← q, wki_wk h1 h2 hs])]
        · rw [if_neg q, if_neg (fun z => q (by rw [z, wk_wki h1 h2 (by omega)]))]
      rw [e3]
      exact sumN_one (wki_lt o hi) (fun x => rfl)
    rw [e1, sumN_add, e2]
    have := ih (by omega)
    unfold lowc at this
    omega
def ownF (u : Nat → Nat) (N o p : Nat) : Nat := if p < cumU u N then lsR u (lowc o (cumU u N) (wki o p)) N else hiR u (2 ^ o - 1 - p) N
theorem and_pow (o x : Nat) (ho : o ≤ 9) (hx : x < 2 ^ 20) : nI x &&& (nI (2 ^ o) - 1) = nI (x % 2 ^ o) := by
  have hp : 0 < 2 ^ o := Nat.pow_pos (by decide)
  have h9 : 2 ^ o ≤ 2 ^ 9 := Nat.pow_le_pow_right (by decide) ho
  rw [nI_pm1 hp]
  exact pk_andN (by omega) o (pk_tn (by omega))
theorem qI_ltN {g z : Nat} (hg : g < 2 ^ 30) (hz : z < 2 ^ 30) : nI g < qI z ↔ g + 1 < z := by
  rw [Int32.lt_iff_toInt_lt, qI_toInt (by omega), nI_toInt (by omega)]
  omega
set_option maxRecDepth 20000 in
theorem x_below {d n s : Nat} {h : Nat → aE} {k l o M : Nat} {od th : Int32} {pA oA : Nat → Int32} {u : Nat → Nat}  (hk : k + 6 < n) (hl : l < 64) (ho5 : o = 0 ∨ 5 ≤ o) (ho : o ≤ 9) (hM : 2 ^ o ≤ M) (hMb : M < 2 ^ 20) (hU : UIs pA u (l + 1)) (hS : mSum u (l + 1) = 2 ^ o) (hO : ∀ p, (cumU u (l + 1)) ≤ p → p < 2 ^ o → oA p = nI (ownF u (l + 1) o p)) (F_h_k : h k = .inr (8, [.int (nI l), .ref (k + 1), .ref (k + 2), .ref (k + 3), .ref (k + 4), .ref (k + 5), .ref (k + 6), .int od, .int th])) (F_h__k_1_ : h (k + 1) = .inl (1, (l + 1), .inl pA)) (F_h__k_5_ : h (k + 5) = .inl (1, M, .inl oA))  {Ψ : Option Value → aH → Prop} (kk : ∀ h' oA', Fr h h' (fun j => j = k + 5) → h' (k + 5) = .inl (1, M, .inl oA') → (∀ p, p < 2 ^ o → oA' p = nI (ownF u (l + 1) o p)) → Ψ none (n, s, h')) : WO (mM (d + 1)) 104 [.ref k, .int (nI (cumU u (l + 1))), .int (nI (2 ^ o))] (n, s, h) Ψ := by
  refine WO.of (Nat.le_of_ble_eq_true rfl) ?_
  have FR_h : Fr h h (fun j => j = k + 5) := Fr.rf
  have h2o : 2 ^ o ≤ 2 ^ 9 := Nat.pow_le_pow_right (by decide) ho
  have hcn := cum_neg u (l + 1)
  have hlall := lowc_all ho5 ho (cumU u (l + 1)) (by omega)
  show WX (lk tX8_spreadBelow) (mM d) Ψ 0 [(0, .ref k), (1, .int (nI (cumU u (l + 1)))), (2, .int (nI (2 ^ o)))] [] (n, s, h)
  refine WX.s1 rfl rfl ?_
  refine WX.s1 rfl rfl ?_
  refine WX.s1 (S' := [.int ((nI (2 ^ o)) >>> (1 &&& 31))]) rfl rfl ?_
  rw [pk_shrN (by omega) _ 1 (by decide)]
  refine WX.s1 rfl rfl ?_
  refine WX.s1 rfl rfl ?_
  refine WX.s1 (S' := [.int ((nI (2 ^ o)) >>> (3 &&& 31)), .int (nI (2 ^ o / 2 ^ 1))]) rfl rfl ?_
  rw [pk_shrN (by omega) _ 3 (by decide)]
  refine WX.s1 (S' := [.int ((nI (2 ^ o / 2 ^ 1)) + (nI (2 ^ o / 2 ^ 3)))]) rfl rfl ?_
  rw [show ((nI (2 ^ o / 2 ^ 1)) + (nI (2 ^ o / 2 ^ 3))) = nI (2 ^ o / 2 ^ 1 + 2 ^ o / 2 ^ 3) from nI_add (2 ^ o / 2 ^ 1) (2 ^ o / 2 ^ 3)]
  refine WX.s1 rfl rfl ?_
  refine WX.s1 (S' := [.int ((nI (2 ^ o / 2 ^ 1 + 2 ^ o / 2 ^ 3)) + 3)]) rfl rfl ?_
  rw [show ((nI (2 ^ o / 2 ^ 1 + 2 ^ o / 2 ^ 3)) + 3) = nI (2 ^ o / 2 ^ 1 + 2 ^ o / 2 ^ 3 + 3) from nI_add (2 ^ o / 2 ^ 1 + 2 ^ o / 2 ^ 3) 3]
  refine WX.s1 (L' := [(0, .ref k), (1, .int (nI (cumU u (l + 1)))), (2, .int (nI (2 ^ o))), (3, .int (nI (2 ^ o / 2 ^ 1 + 2 ^ o / 2 ^ 3 + 3)))]) rfl rfl ?_
  rw [show 2 ^ o / 2 ^ 1 + 2 ^ o / 2 ^ 3 + 3 = stp o from rfl]
  refine WX.s1 rfl rfl ?_
  refine WX.s1 (L' := [(0, .ref k), (1, .int (nI (cumU u (l + 1)))), (2, .int (nI (2 ^ o))), (3, .int (nI (stp o))), (4, .int 0)]) rfl rfl ?_
  refine WX.s1 rfl rfl ?_
  refine WX.s1 (L' := [(0, .ref k), (1, .int (nI (cumU u (l + 1)))), (2, .int (nI (2 ^ o))), (3, .int (nI (stp o))), (4, .int 0), (5, .int 0)]) rfl rfl ?_
  refine WX.s1 rfl rfl ?_
  refine WX.s1 (L' := [(0, .ref k), (1, .int (nI (cumU u (l + 1)))), (2, .int (nI (2 ^ o))), (3, .int (nI (stp o))), (4, .int 0), (5, .int 0), (6, .int 0)]) rfl rfl ?_
  refine WX.s1 rfl rfl ?_
  refine WX.s1 (L' := [(0, .ref k), (1, .int (nI (cumU u (l + 1)))), (2, .int (nI (2 ^ o))), (3, .int (nI (stp o))), (4, .int 0), (5, .int 0), (6, .int 0), (7, .int 0)]) rfl rfl ?_
  have hst : stp o ≤ 600 := by unfold stp; omega
  have lp : ∀ (tt i sy g : Nat) (hL : Nat → aE) (oL : Nat → Int32), i + tt = 2 ^ o → sy ≤ l → lowc o (cumU u (l + 1)) i = cumU u sy + g → g ≤ u sy - 1 → Fr h hL (fun j => j = k + 5) → hL (k + 5) = .inl (1, M, .inl oL) → (∀ p, (cumU u (l + 1)) ≤ p → p < 2 ^ o → oL p = nI (ownF u (l + 1) o p)) → (∀ x, x < i → wk o x < (cumU u (l + 1)) → oL (wk o x) = nI (ownF u (l + 1) o (wk o x))) → WX (lk tX8_spreadBelow) (mM d) Ψ 22 [(0, .ref k), (1, .int (nI (cumU u (l + 1)))), (2, .int (nI (2 ^ o))), (3, .int (nI (stp o))), (4, .int (nI (wk o i))), (5, .int (nI sy)), (6, .int (nI g)), (7, .int (nI i))] [] (n, s, hL) := by
    have F0 := F_h_k
    have F1 := F_h__k_1_
    clear F_h_k F_h__k_1_ F_h__k_5_ FR_h hO
    intro tt
    induction tt with
    | zero =>
      intro i sy g hL oL hi hsy hc hg FR_hL F_hL__k_5_ hO hW
      obtain rfl : i = 2 ^ o := by omega
      refine WX.s1 rfl rfl ?_
      refine WX.s1 rfl rfl ?_
      refine WX.icmp rfl (fun c_25 => ?_) (fun c_25 => absurd ((nI_leI (a := 2 ^ o) (b := 2 ^ o) (by omega) (by omega)).mpr (by omega)) c_25)
      clear c_25
      refine WX.ret0 rfl (kk hL oL FR_hL F_hL__k_5_ (fun p hp => ?_))
      rcases Nat.lt_or_ge p (cumU u (l + 1)) with z | z
      · have := hW (wki o p) (wki_lt o p) (by rw [wk_wki ho5 ho hp]; exact z)
        rw [wk_wki ho5 ho hp] at this
        exact this
      · exact hO p z hp
    | succ tt ih =>
      intro i sy g hL oL hi hsy hc hg FR_hL F_hL__k_5_ hO hW
      have F_hL_k : hL k = .inr (8, [.int (nI l), .ref (k + 1), .ref (k + 2), .ref (k + 3), .ref (k + 4), .ref (k + 5), .ref (k + 6), .int od, .int th]) := (FR_hL k (by omega)).trans F0
      have F_hL__k_1_ : hL (k + 1) = .inl (1, l + 1, .inl pA) := (FR_hL (k + 1) (by omega)).trans F1
      have hwl := wk_lt o i
      have hcb : lowc o (cumU u (l + 1)) i ≤ 2 ^ o := by have := sumN_mono (fun x => if wk o x < (cumU u (l + 1)) then 1 else 0) (show i ≤ 2 ^ o by omega); unfold lowc at hlall ⊢; omega
      have hls : lowc o (cumU u (l + 1)) (i + 1) = lowc o (cumU u (l + 1)) i + (if wk o i < (cumU u (l + 1)) then 1 else 0) := rfl
      refine WX.s1 rfl rfl ?_
      refine WX.s1 rfl rfl ?_
      refine WX.icmp rfl (fun c_25 => absurd c_25 (fun zz_ => absurd ((nI_leI (a := 2 ^ o) (b := i) (by omega) (by omega)).mp zz_) (Nat.not_le.mpr (by omega)))) (fun c_25 => ?_)
      clear c_25
      refine WX.s1 rfl rfl ?_
      refine WX.s1 rfl rfl ?_
      refine WX.icmp rfl (fun c_31 => ?_) (fun c_31 => ?_)
      · skip
        have n_31 : (cumU u (l + 1)) ≤ (wk o i) := (nI_leI (a := cumU u (l + 1)) (b := wk o i) (by omega) (by omega)).mp c_31
        refine WX.s1 rfl rfl ?_
        refine WX.s1 rfl rfl ?_
        refine WX.s1 (S' := [.int ((nI (wk o i)) + (nI (stp o)))]) rfl rfl ?_
        rw [show ((nI (wk o i)) + (nI (stp o))) = nI (wk o i + stp o) from nI_add (wk o i) (stp o)]
        refine WX.s1 rfl rfl ?_
        refine WX.s1 rfl rfl ?_
        refine WX.s1 (S' := [.int ((nI (2 ^ o)) - 1), .int (nI (wk o i + stp o))]) rfl rfl ?_
        refine WX.s1 (S' := [.int ((nI (wk o i + stp o)) &&& ((nI (2 ^ o)) - 1))]) rfl rfl ?_
        rw [and_pow o _ ho (by omega), wk_step]
        refine WX.s1 (L' := [(0, .ref k), (1, .int (nI (cumU u (l + 1)))), (2, .int (nI (2 ^ o))), (3, .int (nI (stp o))), (4, .int (nI (wk o (i + 1)))), (5, .int (nI sy)), (6, .int (nI g)), (7, .int (nI i))]) rfl rfl ?_
        refine WX.s1 (L' := [(0, .ref k), (1, .int (nI (cumU u (l + 1)))), (2, .int (nI (2 ^ o))), (3, .int (nI (stp o))), (4, .int (nI (wk o (i + 1)))), (5, .int (nI sy)), (6, .int (nI g)), (7, .int ((nI i) + 1))]) rfl rfl ?_
        rw [show ((nI i) + 1) = nI (i + 1) from nI_add i 1]
        refine WX.s1 rfl rfl ?_
        rw [if_neg (by omega)] at hls
        refine ih (i + 1) sy g hL oL (by omega) hsy (by omega) hg FR_hL F_hL__k_5_ hO (fun x hx hw => ?_)
        by_cases z : x = i
        · rw [z] at hw; omega
        · exact hW x (by omega) hw
      · skip
        have n_31 : (wk o i) < (cumU u (l + 1)) := Nat.lt_of_not_le (fun zz_ => c_31 ((nI_leI (a := cumU u (l + 1)) (b := wk o i) (by omega) (by omega)).mpr zz_))
        rw [if_pos n_31] at hls
        have hlt : lowc o (cumU u (l + 1)) i < (cumU u (l + 1)) := by have := sumN_mono (fun x => if wk o x < (cumU u (l + 1)) then 1 else 0) (show i + 1 ≤ 2 ^ o by omega); unfold lowc at hlall hls ⊢; omega
        have in_ : ∀ (t2 sy g : Nat), sy + t2 = l → lowc o (cumU u (l + 1)) i = cumU u sy + g → g ≤ u sy - 1 → WX (lk tX8_spreadBelow) (mM d) Ψ 34 [(0, .ref k), (1, .int (nI (cumU u (l + 1)))), (2, .int (nI (2 ^ o))), (3, .int (nI (stp o))), (4, .int (nI (wk o i))), (5, .int (nI sy)), (6, .int (nI g)), (7, .int (nI i))] [] (n, s, hL) := by
          clear hc hg hsy
          intro t2
          induction t2 with
          | zero =>
            intro sy g hsy2 hc hg
            have hus := (hU sy (by omega)).2
            have hcs : cumU u (sy + 1) = cumU u sy + (u sy - 1) := rfl
            refine WX.s1 rfl rfl ?_
            refine WX.s1 rfl rfl ?_
            refine WX.get1 (fs := [.int (nI l), .ref (k + 1), .ref (k + 2), .ref (k + 3), .ref (k + 4), .ref (k + 5), .ref (k + 6), .int od, .int th]) rfl (by omega) (F_hL_k) rfl ?_
            refine WX.icmp rfl (fun c_40 => ?_) (fun c_40 => absurd ((nI_leI (a := l) (b := sy) (by omega) (by omega)).mpr (by omega)) c_40)
            clear c_40
            have esl : sy = l := by omega
            have e9 : cumU u (l + 1) = cumU u sy + (u sy - 1) := by rw [← esl]; rfl
            have hgl : g < u sy - 1 := by omega
            have hown : ownF u (l + 1) o (wk o i) = sy := by
              unfold ownF
              rw [if_pos n_31, wki_wk ho5 ho (by omega)]
              exact lsR_is (by omega) (by omega) _ (by omega)
            refine WX.s1 rfl rfl ?_
            refine WX.get1 (fs := [.int (nI l), .ref (k + 1), .ref (k + 2), .ref (k + 3), .ref (k + 4), .ref (k + 5), .ref (k + 6), .int od, .int th]) rfl (by omega) (F_hL_k) rfl ?_
            refine WX.s1 rfl rfl ?_
            refine WX.s1 rfl rfl ?_
            refine WX.iastN rfl (by omega) (F_hL__k_5_) (vp_in_nI (by omega) (by omega)) (fun g72 h72 e_g72 e_h72 => ?_)
            try dsimp only at e_g72
            have F_h72__k_5_ : h72 (k + 5) = .inl (1, M, .inl g72) := by rw [e_h72]; exact va_up_eq
            have F_h72_k : h72 k = .inr (8, [.int (nI l), .ref (k + 1), .ref (k + 2), .ref (k + 3), .ref (k + 4), .ref (k + 5), .ref (k + 6), .int od, .int th]) := by rw [e_h72, va_up_neq (nek1 (a := 5) (by decide))]; exact F_hL_k
            have F_h72__k_1_ : h72 (k + 1) = .inl (1, (l + 1), .inl pA) := by rw [e_h72, va_up_neq (nek (a := 1) (b := 5) (by decide))]; exact F_hL__k_1_
            have FR_h72 : Fr h h72 (fun j => j = k + 5) := FR_hL.zup e_h72 (by first | exact rfl | exact Or.inl rfl | exact Or.inr rfl | exact ⟨by decide, by decide⟩ | decide | omega)
            refine WX.s1 (L' := [(0, .ref k), (1, .int (nI (cumU u (l + 1)))), (2, .int (nI (2 ^ o))), (3, .int (nI (stp o))), (4, .int (nI (wk o i))), (5, .int (nI sy)), (6, .int ((nI g) + 1)), (7, .int (nI i))]) rfl rfl ?_
            rw [show ((nI g) + 1) = nI (g + 1) from nI_add g 1]
            refine WX.s1 rfl rfl ?_
            refine WX.s1 rfl rfl ?_
            refine WX.s1 (S' := [.int ((nI (wk o i)) + (nI (stp o)))]) rfl rfl ?_
            rw [show ((nI (wk o i)) + (nI (stp o))) = nI (wk o i + stp o) from nI_add (wk o i) (stp o)]
            refine WX.s1 rfl rfl ?_
            refine WX.s1 rfl rfl ?_
            refine WX.s1 (S' := [.int ((nI (2 ^ o)) - 1), .int (nI (wk o i + stp o))]) rfl rfl ?_
            refine WX.s1 (S' := [.int ((nI (wk o i + stp o)) &&& ((nI (2 ^ o)) - 1))]) rfl rfl ?_
            rw [and_pow o _ ho (by omega), wk_step]
            refine WX.s1 (L' := [(0, .ref k), (1, .int (nI (cumU u (l + 1)))), (2, .int (nI (2 ^ o))), (3, .int (nI (stp o))), (4, .int (nI (wk o (i + 1)))), (5, .int (nI sy)), (6, .int (nI (g + 1))), (7, .int (nI i))]) rfl rfl ?_
            refine WX.s1 (L' := [(0, .ref k), (1, .int (nI (cumU u (l + 1)))), (2, .int (nI (2 ^ o))), (3, .int (nI (stp o))), (4, .int (nI (wk o (i + 1)))), (5, .int (nI sy)), (6, .int (nI (g + 1))), (7, .int ((nI i) + 1))]) rfl rfl ?_
            rw [show ((nI i) + 1) = nI (i + 1) from nI_add i 1]
            refine WX.s1 rfl rfl ?_
            refine ih (i + 1) sy (g + 1) h72 g72 (by omega) (by omega) (by omega) (by omega) FR_h72 F_h72__k_5_ (fun p h1 h2 => ?_) (fun x hx hw => ?_)
            · rw [e_g72, nI_clamp (by omega), pk_un (by omega)]; exact hO p h1 h2
            · rw [e_g72, nI_clamp (by omega)]
              by_cases z : x = i
              · rw [z, pk_us, hown]
              · have hne : wk o x ≠ wk o i := fun y => z (by rw [← wki_wk ho5 ho (show x < 2 ^ o by omega), y, wki_wk ho5 ho (by omega)])
                rw [pk_un hne]; exact hW x (by omega) hw
          | succ t2 ih2 =>
            intro sy g hsy2 hc hg
            have hus := (hU sy (by omega)).2
            have hcs : cumU u (sy + 1) = cumU u sy + (u sy - 1) := rfl
            refine WX.s1 rfl rfl ?_
            refine WX.s1 rfl rfl ?_
            refine WX.get1 (fs := [.int (nI l), .ref (k + 1), .ref (k + 2), .ref (k + 3), .ref (k + 4), .ref (k + 5), .ref (k + 6), .int od, .int th]) rfl (by omega) (F_hL_k) rfl ?_
            refine WX.icmp rfl (fun c_40 => absurd c_40 (fun zz_ => absurd ((nI_leI (a := l) (b := sy) (by omega) (by omega)).mp zz_) (Nat.not_le.mpr (by omega)))) (fun c_40 => ?_)
            clear c_40
            refine WX.s1 rfl rfl ?_
            refine WX.s1 rfl rfl ?_
            refine WX.get1 (fs := [.int (nI l), .ref (k + 1), .ref (k + 2), .ref (k + 3), .ref (k + 4), .ref (k + 5), .ref (k + 6), .int od, .int th]) rfl (by omega) (F_hL_k) rfl ?_
            refine WX.s1 rfl rfl ?_
            refine WX.iald1 rfl (Or.inl (by omega)) (F_hL__k_1_) (vp_in_nI (by omega) (by omega)) ?_
            rw [nI_clamp (by omega), (hU sy (by omega)).1]
            refine WX.icmp rfl (fun c_52 => ?_) (fun c_52 => ?_)
            · skip
              have hgl : g < u sy - 1 := by have := (qI_ltN (by omega) (by omega)).mp c_52; omega
              have hown : ownF u (l + 1) o (wk o i) = sy := by
                unfold ownF
                rw [if_pos n_31, wki_wk ho5 ho (by omega)]
                exact lsR_is (by omega) (by omega) _ (by omega)
              refine WX.s1 rfl rfl ?_
              refine WX.get1 (fs := [.int (nI l), .ref (k + 1), .ref (k + 2), .ref (k + 3), .ref (k + 4), .ref (k + 5), .ref (k + 6), .int od, .int th]) rfl (by omega) (F_hL_k) rfl ?_
              refine WX.s1 rfl rfl ?_
              refine WX.s1 rfl rfl ?_
              refine WX.iastN rfl (by omega) (F_hL__k_5_) (vp_in_nI (by omega) (by omega)) (fun g72 h72 e_g72 e_h72 => ?_)
              try dsimp only at e_g72
              have F_h72__k_5_ : h72 (k + 5) = .inl (1, M, .inl g72) := by rw [e_h72]; exact va_up_eq
              have F_h72_k : h72 k = .inr (8, [.int (nI l), .ref (k + 1), .ref (k + 2), .ref (k + 3), .ref (k + 4), .ref (k + 5), .ref (k + 6), .int od, .int th]) := by rw [e_h72, va_up_neq (nek1 (a := 5) (by decide))]; exact F_hL_k
              have F_h72__k_1_ : h72 (k + 1) = .inl (1, (l + 1), .inl pA) := by rw [e_h72, va_up_neq (nek (a := 1) (b := 5) (by decide))]; exact F_hL__k_1_
              have FR_h72 : Fr h h72 (fun j => j = k + 5) := FR_hL.zup e_h72 (by first | exact rfl | exact Or.inl rfl | exact Or.inr rfl | exact ⟨by decide, by decide⟩ | decide | omega)
              refine WX.s1 (L' := [(0, .ref k), (1, .int (nI (cumU u (l + 1)))), (2, .int (nI (2 ^ o))), (3, .int (nI (stp o))), (4, .int (nI (wk o i))), (5, .int (nI sy)), (6, .int ((nI g) + 1)), (7, .int (nI i))]) rfl rfl ?_
              rw [show ((nI g) + 1) = nI (g + 1) from nI_add g 1]
              refine WX.s1 rfl rfl ?_
              refine WX.s1 rfl rfl ?_
              refine WX.s1 (S' := [.int ((nI (wk o i)) + (nI (stp o)))]) rfl rfl ?_
              rw [show ((nI (wk o i)) + (nI (stp o))) = nI (wk o i + stp o) from nI_add (wk o i) (stp o)]
              refine WX.s1 rfl rfl ?_
              refine WX.s1 rfl rfl ?_
              refine WX.s1 (S' := [.int ((nI (2 ^ o)) - 1), .int (nI (wk o i + stp o))]) rfl rfl ?_
              refine WX.s1 (S' := [.int ((nI (wk o i + stp o)) &&& ((nI (2 ^ o)) - 1))]) rfl rfl ?_
              rw [and_pow o _ ho (by omega), wk_step]
              refine WX.s1 (L' := [(0, .ref k), (1, .int (nI (cumU u (l + 1)))), (2, .int (nI (2 ^ o))), (3, .int (nI (stp o))), (4, .int (nI (wk o (i + 1)))), (5, .int (nI sy)), (6, .int (nI (g + 1))), (7, .int (nI i))]) rfl rfl ?_
              refine WX.s1 (L' := [(0, .ref k), (1, .int (nI (cumU u (l + 1)))), (2, .int (nI (2 ^ o))), (3, .int (nI (stp o))), (4, .int (nI (wk o (i + 1)))), (5, .int (nI sy)), (6, .int (nI (g + 1))), (7, .int ((nI i) + 1))]) rfl rfl ?_
              rw [show ((nI i) + 1) = nI (i + 1) from nI_add i 1]
              refine WX.s1 rfl rfl ?_
              refine ih (i + 1) sy (g + 1) h72 g72 (by omega) (by omega) (by omega) (by omega) FR_h72 F_h72__k_5_ (fun p h1 h2 => ?_) (fun x hx hw => ?_)
              · rw [e_g72, nI_clamp (by omega), pk_un (by omega)]; exact hO p h1 h2
              · rw [e_g72, nI_clamp (by omega)]
                by_cases z : x = i
                · rw [z, pk_us, hown]
                · have hne : wk o x ≠ wk o i := fun y => z (by rw [← wki_wk ho5 ho (show x < 2 ^ o by omega), y, wki_wk ho5 ho (by omega)])
                  rw [pk_un hne]; exact hW x (by omega) hw
            · skip
              refine WX.s1 rfl rfl ?_
              refine WX.s1 (L' := [(0, .ref k), (1, .int (nI (cumU u (l + 1)))), (2, .int (nI (2 ^ o))), (3, .int (nI (stp o))), (4, .int (nI (wk o i))), (5, .int (nI sy)), (6, .int 0), (7, .int (nI i))]) rfl rfl ?_
              refine WX.s1 (L' := [(0, .ref k), (1, .int (nI (cumU u (l + 1)))), (2, .int (nI (2 ^ o))), (3, .int (nI (stp o))), (4, .int (nI (wk o i))), (5, .int ((nI sy) + 1)), (6, .int 0), (7, .int (nI i))]) rfl rfl ?_
              rw [show ((nI sy) + 1) = nI (sy + 1) from nI_add sy 1]
              refine WX.s1 rfl rfl ?_
              have hge : u sy - 1 ≤ g := by have z : ¬ g + 1 < u sy := fun y => c_52 ((qI_ltN (by omega) (by omega)).mpr y); omega
              exact ih2 (sy + 1) 0 (by omega) (by omega) (Nat.zero_le _)
        exact in_ (l - sy) sy g (by omega) hc hg
  have hw0 : wk o 0 = 0 := by unfold wk; rw [Nat.zero_mul]; exact Nat.zero_mod _
  have h9 := lp (2 ^ o) 0 0 0 h oA (by omega) (Nat.zero_le _) rfl (Nat.zero_le _) FR_h F_h__k_5_ hO (fun x hx => absurd hx (Nat.not_lt_zero x))
  rw [hw0] at h9
  exact h9
