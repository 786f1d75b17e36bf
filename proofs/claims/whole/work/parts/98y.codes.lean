/-! codes: no more cells than there are; where a symbol's cells begin; bits moved on by bytes -/
theorem tS_keep {x : TS} {k : Nat} (h2 : ∀ k, x.1 ≤ k → x.2.2 k = 0) (h : x.2.2 k ≠ 0) : (tS x).2.2 k = x.2.2 k := by
  unfold tS
  by_cases z : twoK x = 0
  · rw [if_pos z]
  · rw [if_neg z]
    obtain ⟨o1, o2, w1, w2, hne, of, op, wf, wp, -⟩ := two_ok z
    show updN (updN (updN x.2.2 x.1 0) (oneK x - 1) (x.1 + 1)) (twoK x - 1) (x.1 + 1) k = _
    rw [updN_n (fun e => h (by rw [e]; exact wp)), updN_n (fun e => h (by rw [e]; exact op)), updN_n (fun e => h (h2 k (by omega)))]
theorem tN_keep {c : Nat → Nat} {j k : Nat} (h : (tN c j).2.2 k ≠ 0) : ∀ i, (tN c (j + i)).2.2 k = (tN c j).2.2 k := by
  intro i
  induction i with
  | zero => rfl
  | succ i ih =>
    obtain ⟨lp, T⟩ := ti_N c (j + i)
    show (tS (tN c (j + i))).2.2 k = _
    rw [tS_keep T.2.1 (by rw [ih]; exact h)]
    exact ih
def frS (x : TS) (φ : Nat → Nat) : Nat := sumN (fun k => if x.2.1 k ≠ 0 ∧ x.2.2 k = 0 then φ k else 0) x.1
theorem frS_s {c : Nat → Nat} {lp : Nat} {x : TS} {φ : Nat → Nat} (T : TI c lp x) (h : twoK x ≠ 0) (hφ : φ (oneK x - 1) + φ (twoK x - 1) = φ x.1) : frS (tS x) φ = frS x φ := by
  obtain ⟨o1, o2, w1, w2, hne, of, op, wf, wp, hle, hmin⟩ := two_ok h
  obtain ⟨i1, i2, i3, i4, i5, i6, i7, i8, i9, i10⟩ := T
  generalize hO : oneK x - 1 = a at *
  generalize hT : twoK x - 1 = b at *
  have hab : a ≠ b := by omega
  have haK : a < x.1 := by omega
  have hbK : b < x.1 := by omega
  have e : tS x = (x.1 + 1, updN x.2.1 x.1 (x.2.1 a + x.2.1 b), updN (updN (updN x.2.2 x.1 0) a (x.1 + 1)) b (x.1 + 1)) := by
    unfold tS
    rw [if_neg h, hO, hT]
  rw [e]
  generalize hF : updN x.2.1 x.1 (x.2.1 a + x.2.1 b) = F
  generalize hP : updN (updN (updN x.2.2 x.1 0) a (x.1 + 1)) b (x.1 + 1) = P
  have hFK : F x.1 = x.2.1 a + x.2.1 b := by rw [← hF]; exact updN_s
  have hFn : ∀ k, k ≠ x.1 → F k = x.2.1 k := fun k hk => by rw [← hF]; exact updN_n hk
  have hPa : P a = x.1 + 1 := by rw [← hP, updN_n hab]; exact updN_s
  have hPb : P b = x.1 + 1 := by rw [← hP]; exact updN_s
  have hPn : ∀ k, k ≠ a → k ≠ b → P k = x.2.2 k := fun k h1 h2 => by
    rw [← hP, updN_n h2, updN_n h1]
    by_cases z : k = x.1
    · rw [z, updN_s, i2 x.1 (Nat.le_refl _)]
    · exact updN_n z
  show sumN (fun k => if F k ≠ 0 ∧ P k = 0 then φ k else 0) x.1 + (if F x.1 ≠ 0 ∧ P x.1 = 0 then φ x.1 else 0) = sumN (fun k => if x.2.1 k ≠ 0 ∧ x.2.2 k = 0 then φ k else 0) x.1
  have hK0 : P x.1 = 0 := by rw [hPn x.1 (by omega) (by omega)]; exact i2 _ (Nat.le_refl _)
  rw [if_pos ⟨by omega, hK0⟩]
  have q2 : sumN (fun k => if F k ≠ 0 ∧ P k = 0 then φ k else 0) x.1 + (if x.2.1 a ≠ 0 ∧ x.2.2 a = 0 then φ a else 0) + (if x.2.1 b ≠ 0 ∧ x.2.2 b = 0 then φ b else 0) = sumN (fun k => if x.2.1 k ≠ 0 ∧ x.2.2 k = 0 then φ k else 0) x.1 + (if F a ≠ 0 ∧ P a = 0 then φ a else 0) + (if F b ≠ 0 ∧ P b = 0 then φ b else 0) := sumN_two3 (fun k => if x.2.1 k ≠ 0 ∧ x.2.2 k = 0 then φ k else 0) (fun k => if F k ≠ 0 ∧ P k = 0 then φ k else 0) haK hbK hab (fun k h1 h2 h3 => by
    show (if F k ≠ 0 ∧ P k = 0 then φ k else 0) = if x.2.1 k ≠ 0 ∧ x.2.2 k = 0 then φ k else 0
    rw [hPn k h2 h3, hFn k (by omega)])
  rw [if_pos ⟨of, op⟩, if_pos ⟨wf, wp⟩, if_neg (fun z => by have := z.2; omega), if_neg (fun z => by have := z.2; omega)] at q2
  omega
theorem tN_stop (c : Nat → Nat) : ∀ m j, frees (tN c j) ≤ m → j + m ≤ 256 → (tN c j).1 = 256 + j → ∃ i, j ≤ i ∧ i ≤ 256 ∧ twoK (tN c i) = 0 ∧ (tN c i).1 = 256 + i ∧ ∀ q, j ≤ q → q < i → twoK (tN c q) ≠ 0 ∧ (tN c q).1 = 256 + q := by
  intro m
  induction m with
  | zero =>
    intro j h1 h2 h3
    refine ⟨j, Nat.le_refl _, by omega, ?_, h3, fun q a b => by omega⟩
    apply Classical.byContradiction
    intro z
    have := frees_2 z
    omega
  | succ m ih =>
    intro j h1 h2 h3
    by_cases z : twoK (tN c j) = 0
    · exact ⟨j, Nat.le_refl _, by omega, z, h3, fun q a b => by omega⟩
    · obtain ⟨lp, T⟩ := ti_N c j
      have f := frees_s T z
      have s1 := (ti_s T z).2.2
      obtain ⟨i, a1, a2, a3, a4, a5⟩ := ih (j + 1) (by show frees (tS (tN c j)) ≤ m; omega) (by omega) (by show (tS (tN c j)).1 = _; omega)
      refine ⟨i, by omega, a2, a3, a4, fun q b1 b2 => ?_⟩
      by_cases y : q = j
      · rw [y]; exact ⟨z, h3⟩
      · exact a5 q (by omega) b2
theorem sumN_at {f : Nat → Nat} {a : Nat} : ∀ N, (∀ k, k < N → k ≠ a → f k = 0) → sumN f N ≤ f a := by
  intro N
  induction N with
  | zero => intro _; exact Nat.zero_le _
  | succ N ih =>
    intro h
    by_cases e : N = a
    · have z : sumN f N = 0 := by
        have : ∀ M, M ≤ N → sumN f M = 0 := by
          intro M
          induction M with
          | zero => intro _; rfl
          | succ M ihM => intro hM; show sumN f M + f M = 0; rw [ihM (by omega), h M (by omega) (by omega)]
        exact this N (Nat.le_refl _)
      show sumN f N + f N ≤ f a
      rw [z, e]; omega
    · show sumN f N + f N ≤ f a
      rw [h N (by omega) e]
      exact ih (fun k hk => h k (by omega))
theorem kraft0 (c : Nat → Nat) {M : Nat} (hM : 512 ≤ M) : sumN (fun s => if c s = 0 then 0 else 2 ^ (M - dF c s)) 256 ≤ 2 ^ M := by
  obtain ⟨e, -, e2, e3, e4, e5⟩ := tN_stop c 256 0 (frees_0 c) (by decide) rfl
  have hend := tN_end e3 e2
  have hfin : ∀ j, j ≤ e → ∀ k, (tN c j).2.2 k ≠ 0 → (tN c 256).2.2 k = (tN c j).2.2 k := fun j hj k hk => by
    have q := tN_keep hk (256 - j)
    rw [show j + (256 - j) = 256 by omega] at q
    exact q
  obtain ⟨lpE, TE⟩ := ti_N c 256
  have hK : (tN c 256).1 ≤ 512 := by rw [hend]; omega
  have step : ∀ j, j ≤ e → frS (tN c j) (fun k => 2 ^ (M - dpK (tN c 256).2.2 512 k)) = frS (tN c 0) (fun k => 2 ^ (M - dpK (tN c 256).2.2 512 k)) := by
    intro j
    induction j with
    | zero => intro _; rfl
    | succ j ih =>
      intro hj
      obtain ⟨hz, hx⟩ := e5 j (Nat.zero_le _) (by omega)
      obtain ⟨lp, T⟩ := ti_N c j
      obtain ⟨o1, o2, w1, w2, hne, of, op, wf, wp, -⟩ := two_ok hz
      have eS : (tN c (j + 1)).2.2 = updN (updN (updN (tN c j).2.2 (tN c j).1 0) (oneK (tN c j) - 1) ((tN c j).1 + 1)) (twoK (tN c j) - 1) ((tN c j).1 + 1) := by
        show (tS (tN c j)).2.2 = _
        unfold tS
        rw [if_neg hz]
      have pa : (tN c (j + 1)).2.2 (oneK (tN c j) - 1) = (tN c j).1 + 1 := by rw [eS, updN_n (by omega), updN_s]
      have pb : (tN c (j + 1)).2.2 (twoK (tN c j) - 1) = (tN c j).1 + 1 := by rw [eS, updN_s]
      have qa := hfin (j + 1) hj _ (show (tN c (j + 1)).2.2 (oneK (tN c j) - 1) ≠ 0 by omega)
      have qb := hfin (j + 1) hj _ (show (tN c (j + 1)).2.2 (twoK (tN c j) - 1) ≠ 0 by omega)
      rw [pa] at qa
      rw [pb] at qb
      have dp : ∀ k, (tN c 256).2.2 k = (tN c j).1 + 1 → dpK (tN c 256).2.2 512 k = dpK (tN c 256).2.2 512 (tN c j).1 + 1 := fun k hk => by
        have q := dp_fuel TE.2.1 (fun k h => (TE.2.2.1 k h).1) 511 ((tN c j).1) (by omega)
        rw [show (511 : Nat) + 1 = 512 from rfl] at q
        rw [q, show (512 : Nat) = 511 + 1 from rfl, dp_s (by omega), hk, Nat.add_sub_cancel]
      have da := dp _ qa
      have db := dp _ qb
      have dl := dp_le (tN c 256).2.2 512 (oneK (tN c j) - 1)
      show frS (tS (tN c j)) _ = _
      rw [frS_s T hz]
      · exact ih (by omega)
      · show 2 ^ (M - dpK (tN c 256).2.2 512 (oneK (tN c j) - 1)) + 2 ^ (M - dpK (tN c 256).2.2 512 (twoK (tN c j) - 1)) = 2 ^ (M - dpK (tN c 256).2.2 512 (tN c j).1)
        rw [db, ← da, da, show M - dpK (tN c 256).2.2 512 (tN c j).1 = M - (dpK (tN c 256).2.2 512 (tN c j).1 + 1) + 1 by omega, Nat.pow_succ]
        omega
  have s0 : sumN (fun s => if c s = 0 then 0 else 2 ^ (M - dF c s)) 256 = frS (tN c 0) (fun k => 2 ^ (M - dpK (tN c 256).2.2 512 k)) := by
    refine sumN_eq (fun s _ => ?_)
    show (if c s = 0 then 0 else 2 ^ (M - dF c s)) = if c s ≠ 0 ∧ (0 : Nat) = 0 then 2 ^ (M - dF c s) else 0
    by_cases z : c s = 0
    · rw [if_pos z, if_neg (fun q => q.1 z)]
    · rw [if_neg z, if_pos ⟨z, rfl⟩]
  rw [s0, ← step e (Nat.le_refl _)]
  have b : IsL (tN c e).2.1 (tN c e).2.2 (oneK (tN c e)) (tN c e).1 0 := by
    have q : IsL (tN c e).2.1 (tN c e).2.2 (oneK (tN c e)) (tN c e).1 (twoK (tN c e)) := lsK_is _ _ _ _
    rw [e3] at q
    exact q
  rcases b with ⟨-, b⟩ | ⟨b, -⟩
  · refine Nat.le_trans (sumN_at (a := oneK (tN c e) - 1) _ (fun k hk hne => ?_)) ?_
    · refine if_neg (fun q => ?_)
      by_cases y : k + 1 = oneK (tN c e)
      · omega
      · exact b k hk ⟨y, q.1, q.2⟩
    · show (if _ then 2 ^ (M - dpK (tN c 256).2.2 512 (oneK (tN c e) - 1)) else 0) ≤ _
      split
      · exact Nat.pow_le_pow_right (by decide) (by omega)
      · exact Nat.zero_le _
  · omega
def LenOk (L : Nat → Nat) (t : Nat) : Prop := 1 ≤ t ∧ t ≤ 11 ∧ (∀ s, s < 256 → L s ≤ t) ∧ sumN (fun s => if L s = 0 then 0 else 2 ^ (t - L s)) 256 ≤ 2 ^ t
theorem sumN_mulc (f : Nat → Nat) (x : Nat) : ∀ N, sumN (fun s => f s * x) N = sumN f N * x := by
  intro N
  induction N with
  | zero => exact (Nat.zero_mul x).symm
  | succ N ih => show sumN _ N + f N * x = (sumN f N + f N) * x; rw [ih, Nat.add_mul]
theorem kraft {c : Nat → Nat} (h1 : 1 ≤ topF c) (h : topF c ≤ 11) : LenOk (dF c) (topF c) := by
  have hl : ∀ s, s < 256 → dF c s ≤ topF c := fun s hs => mxK_ge hs
  refine ⟨h1, h, hl, ?_⟩
  obtain ⟨M, hM⟩ : ∃ M, 512 ≤ M := ⟨512, Nat.le_refl _⟩
  have k := kraft0 c hM
  have q : sumN (fun s => (if dF c s = 0 then 0 else 2 ^ (topF c - dF c s)) * 2 ^ (M - topF c)) 256 ≤ 2 ^ M := by
    refine Nat.le_trans (sumN_le (fun s hs => ?_)) k
    show (if dF c s = 0 then 0 else 2 ^ (topF c - dF c s)) * 2 ^ (M - topF c) ≤ if c s = 0 then 0 else 2 ^ (M - dF c s)
    by_cases z : dF c s = 0
    · rw [if_pos z, Nat.zero_mul]; exact Nat.zero_le _
    · rw [if_neg z, if_neg (fun y => z (dF_no hs y)), ← Nat.pow_add, show topF c - dF c s + (M - topF c) = M - dF c s by have := hl s hs; omega]
      exact Nat.le_refl _
  rw [sumN_mulc, wb_pw (show topF c ≤ M by omega)] at q
  exact Nat.le_of_mul_le_mul_right q (Nat.pow_pos (by decide))
def wgK (L : Nat → Nat) (t s : Nat) : Nat := if L s = 0 then 0 else t + 1 - L s
def cwK (L : Nat → Nat) (t v n : Nat) : Nat := sumN (fun s => if wgK L t s = v then 2 ^ (v - 1) else 0) n
def bgK (L : Nat → Nat) (t v : Nat) : Nat := sumN (fun u => cwK L t (u + 1) 256) (v - 1)
def stK (L : Nat → Nat) (t s : Nat) : Nat := bgK L t (wgK L t s) + cwK L t (wgK L t s) s
def cdK (L : Nat → Nat) (t s : Nat) : Nat := stK L t s / 2 ^ (wgK L t s - 1)
theorem wg_le {L : Nat → Nat} {t s : Nat} (h : LenOk L t) (hs : s < 256) (hl : L s ≠ 0) : 1 ≤ wgK L t s ∧ wgK L t s ≤ t ∧ wgK L t s - 1 = t - L s := by
  have := h.2.2.1 s hs
  unfold wgK
  rw [if_neg hl]
  omega
theorem cw_mono (L : Nat → Nat) (t v : Nat) {a b : Nat} (h : a ≤ b) : cwK L t v a ≤ cwK L t v b := sumN_mono _ h
theorem bg_s (L : Nat → Nat) (t v : Nat) : bgK L t (v + 2) = bgK L t (v + 1) + cwK L t (v + 1) 256 := rfl
theorem bg_mono (L : Nat → Nat) (t : Nat) {a b : Nat} (h : a ≤ b) : bgK L t a ≤ bgK L t b := sumN_mono _ (by omega)
theorem bg_all {L : Nat → Nat} {t : Nat} (h : LenOk L t) : bgK L t (t + 1) ≤ 2 ^ t := by
  refine Nat.le_trans ?_ h.2.2.2
  show sumN (fun u => cwK L t (u + 1) 256) (t + 1 - 1) ≤ _
  rw [Nat.add_sub_cancel]
  unfold cwK
  rw [sumN_swap (fun u s => if wgK L t s = u + 1 then 2 ^ (u + 1 - 1) else 0) 256 t]
  refine sumN_le (fun s hs => ?_)
  show sumN (fun u => if wgK L t s = u + 1 then 2 ^ (u + 1 - 1) else 0) t ≤ if L s = 0 then 0 else 2 ^ (t - L s)
  by_cases z : L s = 0
  · rw [if_pos z]
    have e : wgK L t s = 0 := if_pos z
    rw [e]
    have : sumN (fun u => if 0 = u + 1 then 2 ^ (u + 1 - 1) else 0) t ≤ (fun u => if 0 = u + 1 then 2 ^ (u + 1 - 1) else 0) 0 := sumN_at t (fun k _ _ => if_neg (by omega))
    exact this
  · rw [if_neg z]
    obtain ⟨w1, w2, w3⟩ := wg_le h hs z
    have q : sumN (fun u => if wgK L t s = u + 1 then 2 ^ (u + 1 - 1) else 0) t ≤ (fun u => if wgK L t s = u + 1 then 2 ^ (u + 1 - 1) else 0) (wgK L t s - 1) := sumN_at t (fun k _ hk => if_neg (by omega))
    refine Nat.le_trans q ?_
    show (if wgK L t s = wgK L t s - 1 + 1 then 2 ^ (wgK L t s - 1 + 1 - 1) else 0) ≤ _
    rw [if_pos (by omega), Nat.add_sub_cancel, w3]
    exact Nat.le_refl _
theorem cw_s {L : Nat → Nat} {t v s : Nat} (h : wgK L t s = v) : cwK L t v (s + 1) = cwK L t v s + 2 ^ (v - 1) := by
  show _ + (if _ then _ else 0) = _
  rw [if_pos h]
  rfl
theorem cw_n {L : Nat → Nat} {t v s : Nat} (h : wgK L t s ≠ v) : cwK L t v (s + 1) = cwK L t v s := by
  show _ + (if _ then _ else 0) = _
  rw [if_neg h]
  rfl
theorem st_in {L : Nat → Nat} {t s : Nat} (h : LenOk L t) (hs : s < 256) (hl : L s ≠ 0) : stK L t s + 2 ^ (wgK L t s - 1) ≤ bgK L t (wgK L t s + 1) ∧ bgK L t (wgK L t s + 1) ≤ 2 ^ t := by
  obtain ⟨w1, w2, w3⟩ := wg_le h hs hl
  obtain ⟨v, hv⟩ : ∃ v, wgK L t s = v + 1 := ⟨wgK L t s - 1, by omega⟩
  have q1 := cw_s (L := L) (t := t) (s := s) rfl
  have q2 := cw_mono L t (wgK L t s) (show s + 1 ≤ 256 by omega)
  have q3 := bg_mono L t (show wgK L t s + 1 ≤ t + 1 by omega)
  have q4 := bg_all h
  have q5 := bg_s L t v
  unfold stK
  rw [hv] at q1 q2 q3 ⊢
  rw [show v + 1 + 1 = v + 2 from rfl] at q3 ⊢
  omega
theorem addB_sh (a w c v x m : Nat) : addB (a + c, w + v * 2 ^ a) x m = (a + (addB (c, v) x m).1, w + (addB (c, v) x m).2 * 2 ^ a) := by
  show (a + c + m, w + v * 2 ^ a + x % 2 ^ m * 2 ^ (a + c)) = (a + (c + m), w + (v + x % 2 ^ m * 2 ^ c) * 2 ^ a)
  rw [Nat.pow_add, Nat.add_mul]
  refine Prod.ext (Nat.add_assoc _ _ _) ?_
  show w + v * 2 ^ a + x % 2 ^ m * (2 ^ a * 2 ^ c) = w + (v * 2 ^ a + x % 2 ^ m * 2 ^ c * 2 ^ a)
  rw [Nat.add_assoc, Nat.mul_assoc, Nat.mul_comm (2 ^ a) (2 ^ c)]
theorem leBy_app {w m : Nat} (h : w < 2 ^ (8 * m)) (v : Nat) : ∀ k, leBy (w + v * 2 ^ (8 * m)) (m + k) = leBy w m ++ leBy v k := by
  intro k
  induction k with
  | zero =>
    rw [Nat.add_zero, leBy_lo (Nat.le_refl _)]
    exact (List.append_nil _).symm
  | succ k ih =>
    rw [← Nat.add_assoc, leBy_succ, ih, leBy_succ, List.append_assoc]
    congr 3
    rw [Nat.pow_add, ← Nat.div_div_eq_div_mul, show 256 ^ m = 2 ^ (8 * m) by rw [Nat.pow_mul]]
    rw [Nat.add_mul_div_right _ _ (Nat.pow_pos (by decide)), Nat.div_eq_of_lt h, Nat.zero_add]
def sB (L : Nat → Nat) (t : Nat) (ls : List Nat) (f : Nat) : Nat → Nat × Nat → Nat × Nat
  | 0, b => b
  | k + 1, b => sB L t ls f k (addB b (cdK L t (ls.getD (f + k) 0)) (L (ls.getD (f + k) 0)))
theorem sB_sh (L : Nat → Nat) (t : Nat) (ls : List Nat) (f a w : Nat) : ∀ k c v, sB L t ls f k (a + c, w + v * 2 ^ a) = (a + (sB L t ls f k (c, v)).1, w + (sB L t ls f k (c, v)).2 * 2 ^ a) := by
  intro k
  induction k with
  | zero => intro c v; rfl
  | succ k ih =>
    intro c v
    show sB L t ls f k (addB (a + c, w + v * 2 ^ a) _ _) = _
    rw [addB_sh, ih]
    rfl
theorem sB_1 (L : Nat → Nat) (t : Nat) (ls : List Nat) (f : Nat) : ∀ k b, (sB L t ls f k b).1 = b.1 + sumN (fun i => L (ls.getD (f + i) 0)) k := by
  intro k
  induction k with
  | zero => intro b; rfl
  | succ k ih =>
    intro b
    show (sB L t ls f k (addB b _ _)).1 = _
    rw [ih]
    show b.1 + L (ls.getD (f + k) 0) + _ = b.1 + (_ + L (ls.getD (f + k) 0))
    omega
def sY (L : Nat → Nat) (t : Nat) (ls : List Nat) (f k : Nat) : List Nat := leBy ((sB L t ls f k (0, 0)).2 + 2 ^ (sB L t ls f k (0, 0)).1) ((sB L t ls f k (0, 0)).1 / 8 + 1)
