/-! a share read: pure, then the class's -/
def rmN (a : Nat) : Nat := 2 ^ (lgL a + 1) - 2 - a
def rdU (l : List Nat) (E b a : Nat) : Option (Nat × Nat) := if E < b + lgL a then none else if rbN l b (lgL a) < rmN a then some (rbN l b (lgL a), b + lgL a) else if E < b + lgL a + 1 then none else some ((if btN l (b + lgL a) = 1 then rbN l b (lgL a) + 2 ^ lgL a - rmN a else rbN l b (lgL a)), b + lgL a + 1)
def rdZ (l : List Nat) (E last : Nat) : Nat → Nat → Nat → Option (Nat × Nat)
  | 0, _, _ => none
  | t + 1, s, b => if E < b + 2 then none else if last + 1 < s + rbN l b 2 then none else if rbN l b 2 = 3 then rdZ l E last t (s + 3) (b + 2) else some (s + rbN l b 2, b + 2)
def rdL (l : List Nat) (E last : Nat) : Nat → Nat → Nat → Nat → (Nat → Nat) → Option ((Nat → Nat) × Nat)
  | 0, _, _, _, _ => none
  | t + 1, s, a, b, u => if a = 0 then some (u, b) else if last < s then none else (rdU l E b a).bind (fun x => if x.1 = 1 then (rdZ l E last 64 (s + 1) x.2).bind (fun y => rdL l E last t y.1 a y.2 (updN u s 1)) else rdL l E last t (s + 1) (a - massU x.1) x.2 (updN u s x.1))
def rdS (l : List Nat) (E G last b : Nat) : Option (Nat × (Nat → Nat) × Nat) := if E < b + 4 then none else if G < 5 + rbN l b 4 then none else (rdL l E last 66 0 (2 ^ (5 + rbN l b 4)) (b + 4) (fun _ => 1)).map (fun x => (5 + rbN l b 4, x.1, x.2))
theorem rdZ_0 {l : List Nat} {E last t s b : Nat} (h : E < b + 2) : rdZ l E last (t + 1) s b = none := if_pos h
theorem rdZ_1 {l : List Nat} {E last t s b : Nat} (h : ¬ E < b + 2) (h1 : last + 1 < s + rbN l b 2) : rdZ l E last (t + 1) s b = none := by
  show (if _ then _ else _) = _
  rw [if_neg h, if_pos h1]
theorem rdZ_3 {l : List Nat} {E last t s b : Nat} (h : ¬ E < b + 2) (h1 : ¬ last + 1 < s + rbN l b 2) (h2 : rbN l b 2 = 3) : rdZ l E last (t + 1) s b = rdZ l E last t (s + 3) (b + 2) := by
  show (if _ then _ else _) = _
  rw [if_neg h, if_neg h1, if_pos h2]
theorem rdZ_4 {l : List Nat} {E last t s b : Nat} (h : ¬ E < b + 2) (h1 : ¬ last + 1 < s + rbN l b 2) (h2 : ¬ rbN l b 2 = 3) : rdZ l E last (t + 1) s b = some (s + rbN l b 2, b + 2) := by
  show (if _ then _ else _) = _
  rw [if_neg h, if_neg h1, if_neg h2]
theorem rdL_0 {l : List Nat} {E last t s b : Nat} {u : Nat → Nat} : rdL l E last (t + 1) s 0 b u = some (u, b) := if_pos rfl
theorem rdL_1 {l : List Nat} {E last t s a b : Nat} {u : Nat → Nat} (h : ¬ a = 0) (h1 : last < s) : rdL l E last (t + 1) s a b u = none := by
  show (if _ then _ else _) = _
  rw [if_neg h, if_pos h1]
theorem rdL_n {l : List Nat} {E last t s a b : Nat} {u : Nat → Nat} (h : ¬ a = 0) (h1 : ¬ last < s) (h2 : rdU l E b a = none) : rdL l E last (t + 1) s a b u = none := by
  show (if _ then _ else _) = _
  rw [if_neg h, if_neg h1, h2]
  rfl
theorem rdL_v {l : List Nat} {E last t s a b v c : Nat} {u : Nat → Nat} (h : ¬ a = 0) (h1 : ¬ last < s) (h2 : rdU l E b a = some (v, c)) (hv : ¬ v = 1) : rdL l E last (t + 1) s a b u = rdL l E last t (s + 1) (a - massU v) c (updN u s v) := by
  show (if _ then _ else _) = _
  rw [if_neg h, if_neg h1, h2]
  exact if_neg hv
theorem rdL_z {l : List Nat} {E last t s a b c : Nat} {u : Nat → Nat} (h : ¬ a = 0) (h1 : ¬ last < s) (h2 : rdU l E b a = some (1, c)) : rdL l E last (t + 1) s a b u = (rdZ l E last 64 (s + 1) c).bind (fun y => rdL l E last t y.1 a y.2 (updN u s 1)) := by
  show (if _ then _ else _) = _
  rw [if_neg h, if_neg h1, h2]
  rfl
theorem lg_uq {a g : Nat} (h1 : 2 ^ g ≤ a + 1) (h2 : a + 1 < 2 ^ (g + 1)) : g = lgL a := by
  unfold lgL
  exact ((Nat.log2_eq_iff (by omega)).mpr ⟨h1, h2⟩).symm
theorem rdU_v {l : List Nat} {E b a v c : Nat} (ha : 1 ≤ a) (ha5 : a ≤ 512) (h : rdU l E b a = some (v, c)) : v ≤ a + 1 ∧ c ≤ E ∧ massU v ≤ a := by
  obtain ⟨g1, g2, g3, g4⟩ := lgL_ok ha5
  have hr := rb_lt l b (lgL a)
  have hm : rmN a = 2 ^ (lgL a + 1) - 2 - a := rfl
  have key : v ≤ a + 1 ∧ c ≤ E := by
    unfold rdU at h
    split at h
    · exact absurd h (by simp)
    · split at h
      · have e := Option.some.inj h
        have e1 := congrArg Prod.fst e
        have e2 := congrArg Prod.snd e
        dsimp only at e1 e2
        omega
      · split at h
        · exact absurd h (by simp)
        · have e := Option.some.inj h
          have e1 := congrArg Prod.fst e
          have e2 := congrArg Prod.snd e
          dsimp only at e1 e2
          split at e1 <;> omega
  refine ⟨key.1, key.2, ?_⟩
  unfold massU
  split <;> omega
theorem rdZ_le {l : List Nat} {E last : Nat} : ∀ t s b x, s ≤ last + 1 → rdZ l E last t s b = some x → s ≤ x.1 ∧ x.1 ≤ last + 1 ∧ x.2 ≤ E := by
  intro t
  induction t with
  | zero => intro s b x _ h; exact absurd h (by simp [rdZ])
  | succ t ih =>
    intro s b x hs h
    by_cases h0 : E < b + 2
    · rw [rdZ_0 h0] at h; exact absurd h (by simp)
    · by_cases h1 : last + 1 < s + rbN l b 2
      · rw [rdZ_1 h0 h1] at h; exact absurd h (by simp)
      · by_cases h2 : rbN l b 2 = 3
        · rw [rdZ_3 h0 h1 h2] at h
          have := ih (s + 3) (b + 2) x (by omega) h
          omega
        · rw [rdZ_4 h0 h1 h2] at h
          rw [← Option.some.inj h]
          exact ⟨Nat.le_add_right _ _, by show s + rbN l b 2 ≤ last + 1; omega, by show b + 2 ≤ E; omega⟩
def RdI (last o s a : Nat) (u : Nat → Nat) : Prop := mSum u s + a = 2 ^ o ∧ (∀ j, s ≤ j → u j = 1) ∧ (∀ j, u j ≤ 514) ∧ s ≤ last + 1
theorem rdI_up {last o s a v : Nat} {u : Nat → Nat} (h : RdI last o s a u) (hs : s ≤ last) (hv : v ≤ 514) (hm : massU v ≤ a) : RdI last o (s + 1) (a - massU v) (updN u s v) := by
  obtain ⟨h1, h2, h3, h4⟩ := h
  have e : mSum (updN u s v) s = mSum u s := sumN_eq (fun j hj => by rw [updN_n (by omega)])
  refine ⟨?_, fun j hj => by rw [updN_n (by omega)]; exact h2 j (by omega), fun j => ?_, by omega⟩
  · rw [mSum_succ, e, updN_s]; omega
  · by_cases z : j = s
    · rw [z, updN_s]; exact hv
    · rw [updN_n z]; exact h3 j
theorem rdI_mv {last o s s2 a : Nat} {u : Nat → Nat} (h : RdI last o s a u) (h1 : s ≤ s2) (h2 : s2 ≤ last + 1) : RdI last o s2 a u := by
  obtain ⟨g1, g2, g3, g4⟩ := h
  refine ⟨?_, fun j hj => g2 j (by omega), g3, h2⟩
  have := mSum_ones (u := u) (a := s) (s2 - s) (fun j _ => g2 _ (by omega))
  rw [show s + (s2 - s) = s2 by omega] at this
  omega
theorem rdL_ok {l : List Nat} {E last o : Nat} (ho : o ≤ 9) : ∀ t s a b u x, RdI last o s a u → b ≤ E → rdL l E last t s a b u = some x → mSum x.1 (last + 1) = 2 ^ o ∧ (∀ j, last < j → x.1 j = 1) ∧ (∀ j, x.1 j ≤ 514) ∧ x.2 ≤ E := by
  intro t
  induction t with
  | zero => intro s a b u x _ _ h; exact absurd h (by simp [rdL])
  | succ t ih =>
    intro s a b u x hI hb h
    have ha5 : a ≤ 512 := by
      have := hI.1
      have : 2 ^ o ≤ 2 ^ 9 := Nat.pow_le_pow_right (by decide) ho
      omega
    by_cases h0 : a = 0
    · subst h0
      rw [rdL_0] at h
      rw [← Option.some.inj h]
      have hI2 := rdI_mv hI hI.2.2.2 (Nat.le_refl _)
      exact ⟨by have := hI2.1; omega, fun j hj => hI2.2.1 j (by omega), hI.2.2.1, hb⟩
    · by_cases h1 : last < s
      · rw [rdL_1 h0 h1] at h; exact absurd h (by simp)
      · cases e : rdU l E b a with
        | none => rw [rdL_n h0 h1 e] at h; exact absurd h (by simp)
        | some y =>
          obtain ⟨v, c⟩ := y
          obtain ⟨q1, q2, q3⟩ := rdU_v (by omega) ha5 e
          by_cases hv : v = 1
          · subst hv
            rw [rdL_z h0 h1 e] at h
            cases e2 : rdZ l E last 64 (s + 1) c with
            | none => rw [e2] at h; exact absurd h (by simp)
            | some z =>
              rw [e2] at h
              have hz := rdZ_le _ _ _ _ (by omega) e2
              have hI3 := rdI_mv (rdI_up hI (by omega) (by decide) q3) hz.1 hz.2.1
              exact ih z.1 a z.2 _ x hI3 hz.2.2 h
          · rw [rdL_v h0 h1 e hv] at h
            exact ih _ _ _ _ x (rdI_up hI (by omega) (by omega) q3) q2 h
theorem rdS_ok {l : List Nat} {E G last b o c : Nat} {u : Nat → Nat} (hG : G ≤ 9) (h : rdS l E G last b = some (o, u, c)) : 5 ≤ o ∧ o ≤ G ∧ mSum u (last + 1) = 2 ^ o ∧ (∀ j, last < j → u j = 1) ∧ (∀ j, u j ≤ 514) ∧ c ≤ E := by
  unfold rdS at h
  split at h
  · exact absurd h (by simp)
  · split at h
    · exact absurd h (by simp)
    · cases e : rdL l E last 66 0 (2 ^ (5 + rbN l b 4)) (b + 4) (fun _ => 1) with
      | none => rw [e] at h; exact absurd h (by simp)
      | some x =>
        rw [e] at h
        have h2 := Option.some.inj h
        have e1 : 5 + rbN l b 4 = o := congrArg (fun z => z.1) h2
        have e2 : x.1 = u := congrArg (fun z => z.2.1) h2
        have e3 : x.2 = c := congrArg (fun z => z.2.2) h2
        rw [e1] at e
        have := rdL_ok (show o ≤ 9 by omega) _ _ _ _ _ _ (show RdI last o 0 (2 ^ o) (fun _ => 1) from ⟨by show 0 + 2 ^ o = 2 ^ o; omega, fun _ _ => rfl, fun _ => (by decide : 1 ≤ 514), by omega⟩) (by omega) e
        rw [← e2, ← e3]
        exact ⟨by omega, by omega, this⟩
theorem rdU_x {l : List Nat} {E b a x v : Nat} (h : (x = 0 ∧ rbN l b (lgL a) < rmN a ∧ v = rbN l b (lgL a)) ∨ (x = 1 ∧ ¬ rbN l b (lgL a) < rmN a ∧ v = if btN l (b + lgL a) = 1 then rbN l b (lgL a) + 2 ^ lgL a - rmN a else rbN l b (lgL a))) : (E < b + x + lgL a → rdU l E b a = none) ∧ (¬ E < b + x + lgL a → rdU l E b a = some (v, b + x + lgL a)) := by
  unfold rdU
  rcases h with ⟨rfl, h1, rfl⟩ | ⟨rfl, h1, rfl⟩
  · exact ⟨fun z => if_pos z, fun z => by rw [if_neg (show ¬ E < b + lgL a from z), if_pos h1]; rfl⟩
  · refine ⟨fun z => ?_, fun z => ?_⟩
    · by_cases q : E < b + lgL a
      · rw [if_pos q]
      · rw [if_neg q, if_neg h1, if_pos (by omega)]
    · rw [if_neg (by omega), if_neg h1, if_neg (by omega), show b + 1 + lgL a = b + lgL a + 1 by omega]
set_option maxRecDepth 20000 in
theorem x_rdZ {d n s : Nat} {h : Nat → aE} {k la o E a b q : Nat} {l : List Nat} (t : Nat) (hn : 190 ≤ n) (hk3 : 3 ≤ k) (hkn : k + 6 < n) (hla : la < 64) (hE : E < 2 ^ 18) (hb : b ≤ E) (hq : q ≤ la) (ha : a < 2 ^ 20) (ht : la < q + 3 * t) (F_h_k : h k = .inr (8, [.int (nI la), .ref (k + 1), .ref (k + 2), .ref (k + 3), .ref (k + 4), .ref (k + 5), .ref (k + 6), .int (nI o), .int 0])) (P_h_in : RowIs h 1 8000 (some l) 0 0) {Ψ : Option Value → aH → Prop} (k0 : rdZ l E la t (q + 1) b = none → Ψ (some (.int (-1))) (n, s, h)) (k1 : ∀ q' b', rdZ l E la t (q + 1) b = some (q' + 1, b') → q' ≤ la → b' ≤ E → WX (lk tX8_readFrom) (mM (d + 2)) Ψ 85 [(0, .ref k), (1, .ref 1), (5, .int (nI E)), (6, .int (nI b')), (7, .int (nI a)), (8, .int (nI (q' + 1)))] [] (n, s, h)) : WX (lk tX8_readFrom) (mM (d + 2)) Ψ 240 [(0, .ref k), (1, .ref 1), (5, .int (nI E)), (6, .int (nI b)), (7, .int (nI a)), (8, .int (nI q))] [] (n, s, h) := by
  induction t generalizing b q with
  | zero => omega
  | succ t ih =>
    have hz4 := rb_lt l b 2
    have FR_h : Fr h h (fun _ => False) := Fr.rf
    refine WX.s1 rfl rfl ?_
    refine WX.s1 rfl rfl ?_
    refine WX.s1 rfl rfl ?_
    refine WX.callC (vs := [.ref 1, .int (nI b), .int 2]) rfl rfl rfl (Nat.le_of_ble_eq_true rfl) ((P_h_in).rcv (by omega)) ?_
    refine x_bits (d := d) (b := b) (c := 2) hn (by omega) (by decide) P_h_in ?_
    show WX _ _ _ 247 [(0, .ref k), (1, .ref 1), (5, .int (nI E)), (6, .int (nI b)), (7, .int (nI a)), (8, .int (nI q))] [.int (nI (rbN l b 2))] (n, s, h)
    refine WX.s1 (L' := [(0, .ref k), (1, .ref 1), (5, .int (nI E)), (6, .int (nI b)), (7, .int (nI a)), (8, .int (nI q)), (12, .int (nI (rbN l b 2)))]) rfl rfl ?_
    refine WX.s1 rfl rfl ?_
    refine WX.s1 rfl rfl ?_
    refine WX.s1 (S' := [.int ((nI q) + (nI (rbN l b 2)))]) rfl rfl ?_
    rw [show ((nI q) + (nI (rbN l b 2))) = nI (q + rbN l b 2) from nI_add q (rbN l b 2)]
    refine WX.s1 (L' := [(0, .ref k), (1, .ref 1), (5, .int (nI E)), (6, .int (nI b)), (7, .int (nI a)), (8, .int (nI (q + rbN l b 2))), (12, .int (nI (rbN l b 2)))]) rfl rfl ?_
    refine WX.s1 (L' := [(0, .ref k), (1, .ref 1), (5, .int (nI E)), (6, .int ((nI b) + 2)), (7, .int (nI a)), (8, .int (nI (q + rbN l b 2))), (12, .int (nI (rbN l b 2)))]) rfl rfl ?_
    rw [show ((nI b) + 2) = nI (b + 2) from nI_add b 2]
    refine WX.s1 rfl rfl ?_
    refine WX.s1 rfl rfl ?_
    refine WX.s1 rfl rfl ?_
    refine WX.icmp rfl (fun c_221 => ?_) (fun c_221 => ?_)
    · skip
      have n_221 : ¬ (rbN l b 2) = 3 := fun zz_ => c_221 ((nI_eq (a := rbN l b 2) (b := 3) (by omega) (by omega)).mpr zz_)
      refine WX.s1 rfl rfl ?_
      refine WX.s1 rfl rfl ?_
      refine WX.icmp rfl (fun c_266 => ?_) (fun c_266 => ?_)
      · skip
        have n_266 : E < (b + 2) := (nI_ltI (a := E) (b := b + 2) (by omega) (by omega)).mp c_266
        refine WX.s1 rfl rfl ?_
        exact WX.ret1 rfl (k0 (rdZ_0 (by omega)))
      · skip
        have n_266 : (b + 2) ≤ E := Nat.le_of_not_lt (fun zz_ => c_266 ((nI_ltI (a := E) (b := b + 2) (by omega) (by omega)).mpr zz_))
        refine WX.s1 rfl rfl ?_
        refine WX.s1 rfl rfl ?_
        refine WX.get1 (fs := [.int (nI la), .ref (k + 1), .ref (k + 2), .ref (k + 3), .ref (k + 4), .ref (k + 5), .ref (k + 6), .int (nI o), .int 0]) rfl (by omega) (F_h_k) rfl ?_
        refine WX.icmp rfl (fun c_275 => ?_) (fun c_275 => ?_)
        · skip
          have n_275 : (q + rbN l b 2) ≤ la := (nI_leI (a := q + rbN l b 2) (b := la) (by omega) (by omega)).mp c_275
          have e4 := rdZ_4 (l := l) (E := E) (last := la) (t := t) (s := q + 1) (b := b) (by omega) (by omega) (by omega)
          refine WX.s1 (L' := [(0, .ref k), (1, .ref 1), (5, .int (nI E)), (6, .int (nI (b + 2))), (7, .int (nI a)), (8, .int ((nI (q + rbN l b 2)) + 1)), (12, .int (nI (rbN l b 2)))]) rfl rfl ?_
          rw [show ((nI (q + rbN l b 2)) + 1) = nI (q + rbN l b 2 + 1) from nI_add (q + rbN l b 2) 1]
          refine WX.s1 rfl rfl ?_
          refine WX.keep (y := 115) [0, 1, 5, 6, 7, 8] (show ([0, 1, 5, 6, 7, 8, 12] : List Nat).Nodup by decide) rfl ?_
          exact k1 (q + (rbN l b 2)) (b + 2) (by rw [e4]; exact congrArg (fun z => some (z, b + 2)) (by omega)) (by omega) (by omega)
        · skip
          have n_275 : la < (q + rbN l b 2) := Nat.lt_of_not_le (fun zz_ => c_275 ((nI_leI (a := q + rbN l b 2) (b := la) (by omega) (by omega)).mpr zz_))
          refine WX.s1 rfl rfl ?_
          exact WX.ret1 rfl (k0 (rdZ_1 (by omega) (by omega)))
    · skip
      have n_221 : (rbN l b 2) = 3 := (nI_eq (a := rbN l b 2) (b := 3) (by omega) (by omega)).mp (Classical.not_not.mp c_221)
      refine WX.s1 rfl rfl ?_
      refine WX.s1 rfl rfl ?_
      refine WX.icmp rfl (fun c_228 => ?_) (fun c_228 => ?_)
      · skip
        have n_228 : E < (b + 2) := (nI_ltI (a := E) (b := b + 2) (by omega) (by omega)).mp c_228
        refine WX.s1 rfl rfl ?_
        refine WX.s1 rfl rfl ?_
        refine WX.icmp rfl (fun c_266 => ?_) (fun c_266 => ?_)
        · skip
          have n_266 : E < (b + 2) := (nI_ltI (a := E) (b := b + 2) (by omega) (by omega)).mp c_266
          refine WX.s1 rfl rfl ?_
          exact WX.ret1 rfl (k0 (rdZ_0 (by omega)))
        · skip
          have n_266 : (b + 2) ≤ E := Nat.le_of_not_lt (fun zz_ => c_266 ((nI_ltI (a := E) (b := b + 2) (by omega) (by omega)).mpr zz_))
          refine WX.s1 rfl rfl ?_
          refine WX.s1 rfl rfl ?_
          refine WX.get1 (fs := [.int (nI la), .ref (k + 1), .ref (k + 2), .ref (k + 3), .ref (k + 4), .ref (k + 5), .ref (k + 6), .int (nI o), .int 0]) rfl (by omega) (F_h_k) rfl ?_
          refine WX.icmp rfl (fun c_275 => ?_) (fun c_275 => ?_)
          · skip
            have n_275 : (q + rbN l b 2) ≤ la := (nI_leI (a := q + rbN l b 2) (b := la) (by omega) (by omega)).mp c_275
            have e4 := rdZ_4 (l := l) (E := E) (last := la) (t := t) (s := q + 1) (b := b) (by omega) (by omega) (by omega)
            refine WX.s1 (L' := [(0, .ref k), (1, .ref 1), (5, .int (nI E)), (6, .int (nI (b + 2))), (7, .int (nI a)), (8, .int ((nI (q + rbN l b 2)) + 1)), (12, .int (nI (rbN l b 2)))]) rfl rfl ?_
            rw [show ((nI (q + rbN l b 2)) + 1) = nI (q + rbN l b 2 + 1) from nI_add (q + rbN l b 2) 1]
            refine WX.s1 rfl rfl ?_
            refine WX.keep (y := 115) [0, 1, 5, 6, 7, 8] (show ([0, 1, 5, 6, 7, 8, 12] : List Nat).Nodup by decide) rfl ?_
            exact k1 (q + (rbN l b 2)) (b + 2) (by rw [e4]; exact congrArg (fun z => some (z, b + 2)) (by omega)) (by omega) (by omega)
          · skip
            have n_275 : la < (q + rbN l b 2) := Nat.lt_of_not_le (fun zz_ => c_275 ((nI_leI (a := q + rbN l b 2) (b := la) (by omega) (by omega)).mpr zz_))
            refine WX.s1 rfl rfl ?_
            exact WX.ret1 rfl (k0 (rdZ_0 (by omega)))
      · skip
        have n_228 : (b + 2) ≤ E := Nat.le_of_not_lt (fun zz_ => c_228 ((nI_ltI (a := E) (b := b + 2) (by omega) (by omega)).mpr zz_))
        refine WX.s1 rfl rfl ?_
        refine WX.s1 rfl rfl ?_
        refine WX.get1 (fs := [.int (nI la), .ref (k + 1), .ref (k + 2), .ref (k + 3), .ref (k + 4), .ref (k + 5), .ref (k + 6), .int (nI o), .int 0]) rfl (by omega) (F_h_k) rfl ?_
        refine WX.icmp rfl (fun c_237 => ?_) (fun c_237 => ?_)
        · skip
          have n_237 : la < (q + rbN l b 2) := (nI_ltI (a := la) (b := q + rbN l b 2) (by omega) (by omega)).mp c_237
          refine WX.s1 rfl rfl ?_
          refine WX.s1 rfl rfl ?_
          refine WX.icmp rfl (fun c_266 => ?_) (fun c_266 => ?_)
          · skip
            have n_266 : E < (b + 2) := (nI_ltI (a := E) (b := b + 2) (by omega) (by omega)).mp c_266
            refine WX.s1 rfl rfl ?_
            exact WX.ret1 rfl (k0 (rdZ_0 (by omega)))
          · skip
            have n_266 : (b + 2) ≤ E := Nat.le_of_not_lt (fun zz_ => c_266 ((nI_ltI (a := E) (b := b + 2) (by omega) (by omega)).mpr zz_))
            refine WX.s1 rfl rfl ?_
            refine WX.s1 rfl rfl ?_
            refine WX.get1 (fs := [.int (nI la), .ref (k + 1), .ref (k + 2), .ref (k + 3), .ref (k + 4), .ref (k + 5), .ref (k + 6), .int (nI o), .int 0]) rfl (by omega) (F_h_k) rfl ?_
            refine WX.icmp rfl (fun c_275 => ?_) (fun c_275 => ?_)
            · skip
              have n_275 : (q + rbN l b 2) ≤ la := (nI_leI (a := q + rbN l b 2) (b := la) (by omega) (by omega)).mp c_275
              have e4 := rdZ_4 (l := l) (E := E) (last := la) (t := t) (s := q + 1) (b := b) (by omega) (by omega) (by omega)
              refine WX.s1 (L' := [(0, .ref k), (1, .ref 1), (5, .int (nI E)), (6, .int (nI (b + 2))), (7, .int (nI a)), (8, .int ((nI (q + rbN l b 2)) + 1)), (12, .int (nI (rbN l b 2)))]) rfl rfl ?_
              rw [show ((nI (q + rbN l b 2)) + 1) = nI (q + rbN l b 2 + 1) from nI_add (q + rbN l b 2) 1]
              refine WX.s1 rfl rfl ?_
              refine WX.keep (y := 115) [0, 1, 5, 6, 7, 8] (show ([0, 1, 5, 6, 7, 8, 12] : List Nat).Nodup by decide) rfl ?_
              exact k1 (q + (rbN l b 2)) (b + 2) (by rw [e4]; exact congrArg (fun z => some (z, b + 2)) (by omega)) (by omega) (by omega)
            · skip
              have n_275 : la < (q + rbN l b 2) := Nat.lt_of_not_le (fun zz_ => c_275 ((nI_leI (a := q + rbN l b 2) (b := la) (by omega) (by omega)).mpr zz_))
              refine WX.s1 rfl rfl ?_
              exact WX.ret1 rfl (k0 (rdZ_1 (by omega) (by omega)))
        · skip
          have n_237 : (q + rbN l b 2) ≤ la := Nat.le_of_not_lt (fun zz_ => c_237 ((nI_ltI (a := la) (b := q + rbN l b 2) (by omega) (by omega)).mpr zz_))
          have ez : (rbN l b 2) = 3 := by omega
          rw [ez] at n_237
          have e3 := rdZ_3 (l := l) (E := E) (last := la) (t := t) (s := q + 1) (b := b) (by omega) (by omega) ez
          rw [e3, show q + 1 + 3 = (q + 3) + 1 by omega] at k0
          simp only [e3, show q + 1 + 3 = (q + 3) + 1 by omega] at k1
          rw [ez]
          refine WX.keep (y := 115) [0, 1, 5, 6, 7, 8] (show ([0, 1, 5, 6, 7, 8, 12] : List Nat).Nodup by decide) rfl ?_
          exact ih (by omega) (by omega) (by omega) k0 k1
set_option maxRecDepth 20000 in
theorem x_rdL {d n s : Nat} {h : Nat → aE} {k la o E a b q : Nat} {l : List Nat} {u : Nat → Nat} {pA : Nat → Int32} (t : Nat) (hn : 190 ≤ n) (hk3 : 3 ≤ k) (hkn : k + 6 < n) (hla : la < 64) (hE : E < 2 ^ 18) (hb : b ≤ E) (ho : o ≤ 9) (hI : RdI la o q a u) (ht : la + 1 < q + t) (hU : UIs pA u (la + 1)) (F_h_k : h k = .inr (8, [.int (nI la), .ref (k + 1), .ref (k + 2), .ref (k + 3), .ref (k + 4), .ref (k + 5), .ref (k + 6), .int (nI o), .int 0])) (F_h__k_1_ : h (k + 1) = .inl (1, (la + 1), .inl pA)) (P_h_in : RowIs h 1 8000 (some l) 0 0) {Ψ : Option Value → aH → Prop} (k0 : rdL l E la t q a b u = none → ∀ h' pA', Fr h h' (fun j => j = k + 1) → h' (k + 1) = .inl (1, (la + 1), .inl pA') → Ψ (some (.int (-1))) (n, s, h')) (k1 : ∀ u' b', rdL l E la t q a b u = some (u', b') → ∀ h' pA', Fr h h' (fun j => j = k + 1) → h' (k + 1) = .inl (1, (la + 1), .inl pA') → UIs pA' u' (la + 1) → WX (lk tX8_readFrom) (mM (d + 2)) Ψ 293 [(0, .ref k), (6, .int (nI b'))] [] (n, s, h')) : WX (lk tX8_readFrom) (mM (d + 2)) Ψ 85 [(0, .ref k), (1, .ref 1), (5, .int (nI E)), (6, .int (nI b)), (7, .int (nI a)), (8, .int (nI q))] [] (n, s, h) := by
  induction t generalizing h b q a u pA with
  | zero => have := hI.2.2.2; omega
  | succ t ih =>
    have FR_h : Fr h h (fun j => j = k + 1) := Fr.rf
    have hq1 := hI.2.2.2
    have ha5 : a ≤ 512 := by
      have h1 := hI.1
      have : 2 ^ o ≤ 2 ^ 9 := Nat.pow_le_pow_right (by decide) ho
      omega
    obtain ⟨g1, g2, g3, g4⟩ := lgL_ok ha5
    have hr0 := rb_lt l b (lgL a)
    have hr1 := rb_lt l b (lgL a + 1)
    have hrs := rb_s l b (lgL a)
    have hbt := bt_lt l (b + lgL a)
    have hrm : rmN a = 2 ^ (lgL a + 1) - 2 - a := rfl
    refine WX.s1 rfl rfl ?_
    refine WX.s1 rfl rfl ?_
    refine WX.get1 (fs := [.int (nI la), .ref (k + 1), .ref (k + 2), .ref (k + 3), .ref (k + 4), .ref (k + 5), .ref (k + 6), .int (nI o), .int 0]) rfl (by omega) (F_h_k) rfl ?_
    refine WX.icmp rfl (fun c_91 => ?_) (fun c_91 => ?_)
    · skip
      have n_91 : la < q := (nI_ltI (a := la) (b := q) (by omega) (by omega)).mp c_91
      refine WX.s1 rfl rfl ?_
      refine WX.if_ rfl (fun c_288 => ?_) (fun c_288 => ?_)
      · skip
        have n_288 : a = 0 := (nI_eq (a := a) (b := 0) (by omega) (by omega)).mp c_288
        refine WX.keep (y := 115) [0, 6] (show ([0, 1, 5, 6, 7, 8] : List Nat).Nodup by decide) rfl ?_
        obtain rfl : a = 0 := by omega
        exact k1 u b rdL_0 h pA FR_h F_h__k_1_ hU
      · skip
        have n_288 : ¬ a = 0 := fun zz_ => c_288 ((nI_eq (a := a) (b := 0) (by omega) (by omega)).mpr zz_)
        refine WX.s1 rfl rfl ?_
        exact WX.ret1 rfl (k0 (rdL_1 (by omega) (by omega)) h pA FR_h F_h__k_1_)
    · skip
      have n_91 : q ≤ la := Nat.le_of_not_lt (fun zz_ => c_91 ((nI_ltI (a := la) (b := q) (by omega) (by omega)).mpr zz_))
      refine WX.s1 rfl rfl ?_
      refine WX.if_ rfl (fun c_96 => ?_) (fun c_96 => ?_)
      · skip
        have n_96 : a ≤ 0 := (nI_leI (a := a) (b := 0) (by omega) (by omega)).mp c_96
        refine WX.s1 rfl rfl ?_
        refine WX.if_ rfl (fun c_288 => ?_) (fun c_288 => ?_)
        · skip
          have n_288 : a = 0 := (nI_eq (a := a) (b := 0) (by omega) (by omega)).mp c_288
          refine WX.keep (y := 115) [0, 6] (show ([0, 1, 5, 6, 7, 8] : List Nat).Nodup by decide) rfl ?_
          obtain rfl : a = 0 := by omega
          exact k1 u b rdL_0 h pA FR_h F_h__k_1_ hU
        · skip
          have n_288 : ¬ a = 0 := fun zz_ => c_288 ((nI_eq (a := a) (b := 0) (by omega) (by omega)).mpr zz_)
          refine WX.s1 rfl rfl ?_
          exact WX.ret1 rfl (k0 (rdL_1 (by omega) (by omega)) h pA FR_h F_h__k_1_)
      · skip
        have n_96 : 0 < a := Nat.lt_of_not_le (fun zz_ => c_96 ((nI_leI (a := a) (b := 0) (by omega) (by omega)).mpr zz_))
        have h0a : ¬ a = 0 := by omega
        have hqa : ¬ la < q := by omega
        have t172 : ∀ v x, v ≤ a + 1 → x ≤ 1 → (E < b + x + lgL a → rdU l E b a = none) ∧ (¬ E < b + x + lgL a → rdU l E b a = some (v, b + x + lgL a)) → WX (lk tX8_readFrom) (mM (d + 2)) Ψ 172 [(0, .ref k), (1, .ref 1), (5, .int (nI E)), (6, .int (nI (b + x))), (7, .int (nI a)), (8, .int (nI q)), (9, .int (nI (lgL a))), (10, .int (nI (rmN a))), (11, .int (nI v))] [] (n, s, h) := by
          intro v x hv hx1 hx
          have hmv : massU v ≤ a := by unfold massU; split <;> omega
          refine WX.s1 rfl rfl ?_
          refine WX.s1 rfl rfl ?_
          refine WX.s1 (S' := [.int ((nI (b + x)) + (nI (lgL a)))]) rfl rfl ?_
          rw [show ((nI (b + x)) + (nI (lgL a))) = nI (b + x + lgL a) from nI_add (b + x) (lgL a)]
          refine WX.s1 (L' := [(0, .ref k), (1, .ref 1), (5, .int (nI E)), (6, .int (nI (b + x + lgL a))), (7, .int (nI a)), (8, .int (nI q)), (9, .int (nI (lgL a))), (10, .int (nI (rmN a))), (11, .int (nI v))]) rfl rfl ?_
          refine WX.s1 rfl rfl ?_
          refine WX.get1 (fs := [.int (nI la), .ref (k + 1), .ref (k + 2), .ref (k + 3), .ref (k + 4), .ref (k + 5), .ref (k + 6), .int (nI o), .int 0]) rfl (by omega) (F_h_k) rfl ?_
          refine WX.s1 rfl rfl ?_
          refine WX.s1 rfl rfl ?_
          refine WX.s1 rfl rfl ?_
          refine WX.s1 (S' := [.int ((nI v) - 1), .int (nI q), .ref (k + 1)]) rfl rfl ?_
          rw [show nI v - 1 = qI v from nI_m1 v]
          refine WX.iastN rfl (by omega) (F_h__k_1_) (vp_in_nI (N := la + 1) (by omega) (by omega)) (fun g189 h189 e_g189 e_h189 => ?_)
          try dsimp only at e_g189
          have F_h189_k : h189 k = .inr (8, [.int (nI la), .ref (k + 1), .ref (k + 2), .ref (k + 3), .ref (k + 4), .ref (k + 5), .ref (k + 6), .int (nI o), .int 0]) := by rw [e_h189, va_up_neq (by omega)]; exact F_h_k
          have F_h189__k_1_ : h189 (k + 1) = .inl (1, (la + 1), .inl g189) := by rw [e_h189]; exact va_up_eq
          have P_h189_in : RowIs h189 1 8000 (some l) 0 0 := (P_h_in).zfr (Fr.of e_h189) (by omega) (by omega)
          have FR_h189 : Fr h h189 (fun j => j = k + 1) := (FR_h).zup e_h189 (by first | exact rfl | exact Or.inl rfl | exact Or.inr rfl | exact ⟨by decide, by decide⟩ | decide | omega)
          clear F_h_k F_h__k_1_ P_h_in FR_h e_h189
          rw [nI_clamp (by omega)] at e_g189
          have hU2 : UIs g189 (updN u q v) (la + 1) := fun j hj => by
            by_cases z : j = q
            · rw [z, e_g189, pk_us, updN_s]; exact ⟨rfl, by omega⟩
            · rw [e_g189, pk_un z, updN_n z]; exact hU j hj
          have hpq : g189 q = qI v := by rw [e_g189, pk_us]
          clear e_g189
          refine WX.s1 rfl rfl ?_
          refine WX.s1 rfl rfl ?_
          refine WX.get1 (fs := [.int (nI la), .ref (k + 1), .ref (k + 2), .ref (k + 3), .ref (k + 4), .ref (k + 5), .ref (k + 6), .int (nI o), .int 0]) rfl (by omega) (F_h189_k) rfl ?_
          refine WX.s1 rfl rfl ?_
          refine WX.iald1 rfl (Or.inl (by omega)) (F_h189__k_1_) (vp_in_nI (N := la + 1) (by omega) (by omega)) ?_
          rw [nI_clamp (by omega), hpq]
          refine WX.s1 (S' := [.int (if 0 ≤ (qI v) then (qI v) else 0 - (qI v)), .int (nI a)]) rfl rfl ?_
          rw [qI_abs (by omega)]
          refine WX.s1 (S' := [.int ((nI a) - (nI (massU v)))]) rfl rfl ?_
          rw [nI_subN hmv]
          refine WX.s1 (L' := [(0, .ref k), (1, .ref 1), (5, .int (nI E)), (6, .int (nI (b + x + lgL a))), (7, .int (nI (a - massU v))), (8, .int (nI q)), (9, .int (nI (lgL a))), (10, .int (nI (rmN a))), (11, .int (nI v))]) rfl rfl ?_
          refine WX.s1 rfl rfl ?_
          refine WX.s1 rfl rfl ?_
          refine WX.icmp rfl (fun c_208 => ?_) (fun c_208 => ?_)
          · skip
            have n_208 : ¬ v = 1 := fun zz_ => c_208 ((nI_eq (a := v) (b := 1) (by omega) (by omega)).mpr zz_)
            refine WX.s1 rfl rfl ?_
            refine WX.s1 (L' := [(0, .ref k), (1, .ref 1), (5, .int (nI E)), (6, .int (nI (b + x + lgL a))), (7, .int (nI (a - massU v))), (8, .int (nI q)), (9, .int (nI (lgL a))), (10, .int (nI (rmN a))), (11, .int (nI v)), (12, .int 0)]) rfl rfl ?_
            refine WX.s1 rfl rfl ?_
            refine WX.s1 rfl rfl ?_
            refine WX.icmp rfl (fun c_221 => ?_) (fun c_221 => absurd (by decide) c_221)
            clear c_221
            refine WX.s1 rfl rfl ?_
            refine WX.s1 rfl rfl ?_
            refine WX.icmp rfl (fun c_266 => ?_) (fun c_266 => ?_)
            · skip
              have n_266 : E < (b + x + lgL a) := (nI_ltI (a := E) (b := b + x + lgL a) (by omega) (by omega)).mp c_266
              refine WX.s1 rfl rfl ?_
              exact WX.ret1 rfl (k0 (rdL_n h0a hqa (hx.1 (by omega))) h189 g189 FR_h189 F_h189__k_1_)
            · skip
              have n_266 : (b + x + lgL a) ≤ E := Nat.le_of_not_lt (fun zz_ => c_266 ((nI_ltI (a := E) (b := b + x + lgL a) (by omega) (by omega)).mpr zz_))
              refine WX.s1 rfl rfl ?_
              refine WX.s1 rfl rfl ?_
              refine WX.get1 (fs := [.int (nI la), .ref (k + 1), .ref (k + 2), .ref (k + 3), .ref (k + 4), .ref (k + 5), .ref (k + 6), .int (nI o), .int 0]) rfl (by omega) (F_h189_k) rfl ?_
              refine WX.icmp rfl (fun c_275 => ?_) (fun c_275 => absurd ((nI_leI (a := q) (b := la) (by omega) (by omega)).mpr (by omega)) c_275)
              clear c_275
              refine WX.s1 (L' := [(0, .ref k), (1, .ref 1), (5, .int (nI E)), (6, .int (nI (b + x + lgL a))), (7, .int (nI (a - massU v))), (8, .int ((nI q) + 1)), (9, .int (nI (lgL a))), (10, .int (nI (rmN a))), (11, .int (nI v)), (12, .int 0)]) rfl rfl ?_
              rw [show ((nI q) + 1) = nI (q + 1) from nI_add q 1]
              refine WX.s1 rfl rfl ?_
              have hsm := hx.2 (by omega)
              have ev := rdL_v (t := t) (u := u) h0a hqa hsm (by omega)
              rw [ev] at k0
              simp only [ev] at k1
              refine WX.keep (y := 115) [0, 1, 5, 6, 7, 8] (show ([0, 1, 5, 6, 7, 8, 9, 10, 11, 12] : List Nat).Nodup by decide) rfl ?_
              exact ih (by omega) (rdI_up hI (by omega) (by omega) hmv) (by omega) hU2 F_h189_k F_h189__k_1_ P_h189_in (fun z2 h9 p9 f9 F9 => k0 z2 h9 p9 ((FR_h189).ztr f9) F9) (fun u9 b8 z2 h9 p9 f9 F9 U9 => k1 u9 b8 z2 h9 p9 ((FR_h189).ztr f9) F9 U9)
          · skip
            have n_208 : v = 1 := (nI_eq (a := v) (b := 1) (by omega) (by omega)).mp (Classical.not_not.mp c_208)
            refine WX.s1 rfl rfl ?_
            refine WX.s1 rfl rfl ?_
            refine WX.s1 (L' := [(0, .ref k), (1, .ref 1), (5, .int (nI E)), (6, .int (nI (b + x + lgL a))), (7, .int (nI (a - massU v))), (8, .int (nI q)), (9, .int (nI (lgL a))), (10, .int (nI (rmN a))), (11, .int (nI v)), (12, .int 3)]) rfl rfl ?_
            refine WX.s1 rfl rfl ?_
            refine WX.s1 rfl rfl ?_
            refine WX.icmp rfl (fun c_221 => absurd c_221 (by decide)) (fun c_221 => ?_)
            clear c_221
            refine WX.s1 rfl rfl ?_
            refine WX.s1 rfl rfl ?_
            refine WX.icmp rfl (fun c_228 => ?_) (fun c_228 => ?_)
            · skip
              have n_228 : E < (b + x + lgL a) := (nI_ltI (a := E) (b := b + x + lgL a) (by omega) (by omega)).mp c_228
              refine WX.s1 rfl rfl ?_
              refine WX.s1 rfl rfl ?_
              refine WX.icmp rfl (fun c_266 => ?_) (fun c_266 => ?_)
              · skip
                have n_266 : E < (b + x + lgL a) := (nI_ltI (a := E) (b := b + x + lgL a) (by omega) (by omega)).mp c_266
                refine WX.s1 rfl rfl ?_
                exact WX.ret1 rfl (k0 (rdL_n h0a hqa (hx.1 (by omega))) h189 g189 FR_h189 F_h189__k_1_)
              · skip
                have n_266 : (b + x + lgL a) ≤ E := Nat.le_of_not_lt (fun zz_ => c_266 ((nI_ltI (a := E) (b := b + x + lgL a) (by omega) (by omega)).mpr zz_))
                refine WX.s1 rfl rfl ?_
                refine WX.s1 rfl rfl ?_
                refine WX.get1 (fs := [.int (nI la), .ref (k + 1), .ref (k + 2), .ref (k + 3), .ref (k + 4), .ref (k + 5), .ref (k + 6), .int (nI o), .int 0]) rfl (by omega) (F_h189_k) rfl ?_
                refine WX.icmp rfl (fun c_275 => ?_) (fun c_275 => absurd ((nI_leI (a := q) (b := la) (by omega) (by omega)).mpr (by omega)) c_275)
                clear c_275
                refine WX.s1 (L' := [(0, .ref k), (1, .ref 1), (5, .int (nI E)), (6, .int (nI (b + x + lgL a))), (7, .int (nI (a - massU v))), (8, .int ((nI q) + 1)), (9, .int (nI (lgL a))), (10, .int (nI (rmN a))), (11, .int (nI v)), (12, .int 3)]) rfl rfl ?_
                rw [show ((nI q) + 1) = nI (q + 1) from nI_add q 1]
                refine WX.s1 rfl rfl ?_
                have hsm := hx.2 (by omega)
                have ev := rdL_v (t := t) (u := u) h0a hqa hsm (by omega)
                rw [ev] at k0
                simp only [ev] at k1
                refine WX.keep (y := 115) [0, 1, 5, 6, 7, 8] (show ([0, 1, 5, 6, 7, 8, 9, 10, 11, 12] : List Nat).Nodup by decide) rfl ?_
                exact ih (by omega) (rdI_up hI (by omega) (by omega) hmv) (by omega) hU2 F_h189_k F_h189__k_1_ P_h189_in (fun z2 h9 p9 f9 F9 => k0 z2 h9 p9 ((FR_h189).ztr f9) F9) (fun u9 b8 z2 h9 p9 f9 F9 U9 => k1 u9 b8 z2 h9 p9 ((FR_h189).ztr f9) F9 U9)
            · skip
              have n_228 : (b + x + lgL a) ≤ E := Nat.le_of_not_lt (fun zz_ => c_228 ((nI_ltI (a := E) (b := b + x + lgL a) (by omega) (by omega)).mpr zz_))
              refine WX.s1 rfl rfl ?_
              refine WX.s1 rfl rfl ?_
              refine WX.get1 (fs := [.int (nI la), .ref (k + 1), .ref (k + 2), .ref (k + 3), .ref (k + 4), .ref (k + 5), .ref (k + 6), .int (nI o), .int 0]) rfl (by omega) (F_h189_k) rfl ?_
              refine WX.icmp rfl (fun c_237 => absurd c_237 (fun zz_ => absurd ((nI_ltI (a := la) (b := q) (by omega) (by omega)).mp zz_) (Nat.not_lt.mpr (by omega)))) (fun c_237 => ?_)
              clear c_237
              obtain rfl : v = 1 := by omega
              rw [show massU 1 = 0 from rfl, Nat.sub_zero]
              have hsm := hx.2 (by omega)
              have ez := rdL_z (t := t) (u := u) h0a hqa hsm
              refine WX.keep (y := 115) [0, 1, 5, 6, 7, 8] (show ([0, 1, 5, 6, 7, 8, 9, 10, 11, 12] : List Nat).Nodup by decide) rfl ?_
              refine x_rdZ (d := d) 64 hn hk3 hkn hla hE (by omega) (by omega) (by omega) (by omega) F_h189_k P_h189_in (fun z => ?_) (fun q9 b9 z hq9 hb9 => ?_)
              · exact k0 (by rw [ez, z]; rfl) h189 g189 FR_h189 F_h189__k_1_
              · have hI2 : RdI la o (q9 + 1) a (updN u q 1) := rdI_mv (rdI_up hI (by omega) (by decide) (Nat.zero_le _)) (by have := (rdZ_le _ _ _ _ (by omega) z).1; omega) (by omega)
                refine ih hb9 hI2 (by have := (rdZ_le _ _ _ _ (by omega) z).1; omega) hU2 F_h189_k F_h189__k_1_ P_h189_in (fun z2 h9 p9 f9 F9 => k0 (by rw [ez, z]; exact z2) h9 p9 ((FR_h189).ztr f9) F9) (fun u9 b8 z2 h9 p9 f9 F9 U9 => k1 u9 b8 (by rw [ez, z]; exact z2) h9 p9 ((FR_h189).ztr f9) F9 U9)
        refine WX.s1 rfl rfl ?_
        refine WX.s1 rfl rfl ?_
        refine WX.s1 (S' := [.int ((nI a) + 1)]) rfl rfl ?_
        rw [show ((nI a) + 1) = nI (a + 1) from nI_add a 1]
        refine WX.callC (vs := [.int (nI (a + 1))]) rfl rfl rfl (Nat.le_of_ble_eq_true rfl) rfl ?_
        refine w_log (d := d + 1) (by omega) (by omega) (fun g hg1 hg2 => ?_)
        obtain rfl := lg_uq hg1 hg2
        show WX _ _ _ 106 [(0, .ref k), (1, .ref 1), (5, .int (nI E)), (6, .int (nI b)), (7, .int (nI a)), (8, .int (nI q))] [.int (nI (lgL a))] (n, s, h)
        refine WX.s1 (L' := [(0, .ref k), (1, .ref 1), (5, .int (nI E)), (6, .int (nI b)), (7, .int (nI a)), (8, .int (nI q)), (9, .int (nI (lgL a)))]) rfl rfl ?_
        refine WX.s1 rfl rfl ?_
        refine WX.s1 rfl rfl ?_
        refine WX.s1 (S' := [.int (2 <<< ((nI (lgL a)) &&& 31))]) rfl rfl ?_
        rw [sh2 (lgL a) (by omega)]
        refine WX.s1 rfl rfl ?_
        refine WX.s1 (S' := [.int ((nI (2 ^ (lgL a + 1))) - 2)]) rfl rfl ?_
        rw [show nI (2 ^ (lgL a + 1)) - 2 = nI (2 ^ (lgL a + 1) - 2) from nI_subN (b := 2) (by omega)]
        refine WX.s1 rfl rfl ?_
        refine WX.s1 (S' := [.int ((nI (2 ^ (lgL a + 1) - 2)) - (nI a))]) rfl rfl ?_
        rw [nI_subN (show a ≤ 2 ^ (lgL a + 1) - 2 by omega), ← hrm]
        refine WX.s1 (L' := [(0, .ref k), (1, .ref 1), (5, .int (nI E)), (6, .int (nI b)), (7, .int (nI a)), (8, .int (nI q)), (9, .int (nI (lgL a))), (10, .int (nI (rmN a)))]) rfl rfl ?_
        refine WX.s1 rfl rfl ?_
        refine WX.s1 rfl rfl ?_
        refine WX.s1 rfl rfl ?_
        refine WX.callC (vs := [.ref 1, .int (nI b), .int (nI (lgL a))]) rfl rfl rfl (Nat.le_of_ble_eq_true rfl) ((P_h_in).rcv (by omega)) ?_
        refine x_bits (d := d) (b := b) (c := lgL a) hn (by omega) (by omega) P_h_in ?_
        show WX _ _ _ 127 [(0, .ref k), (1, .ref 1), (5, .int (nI E)), (6, .int (nI b)), (7, .int (nI a)), (8, .int (nI q)), (9, .int (nI (lgL a))), (10, .int (nI (rmN a)))] [.int (nI (rbN l b (lgL a)))] (n, s, h)
        refine WX.s1 (L' := [(0, .ref k), (1, .ref 1), (5, .int (nI E)), (6, .int (nI b)), (7, .int (nI a)), (8, .int (nI q)), (9, .int (nI (lgL a))), (10, .int (nI (rmN a))), (11, .int (nI (rbN l b (lgL a))))]) rfl rfl ?_
        refine WX.s1 rfl rfl ?_
        refine WX.s1 rfl rfl ?_
        refine WX.icmp rfl (fun c_133 => ?_) (fun c_133 => ?_)
        · skip
          have n_133 : (rbN l b (lgL a)) < (rmN a) := (nI_ltI (a := rbN l b (lgL a)) (b := rmN a) (by omega) (by omega)).mp c_133
          exact t172 _ 0 (by omega) (by decide) (rdU_x (Or.inl ⟨rfl, n_133, rfl⟩))
        · skip
          have n_133 : (rmN a) ≤ (rbN l b (lgL a)) := Nat.le_of_not_lt (fun zz_ => c_133 ((nI_ltI (a := rbN l b (lgL a)) (b := rmN a) (by omega) (by omega)).mpr zz_))
          refine WX.s1 rfl rfl ?_
          refine WX.s1 rfl rfl ?_
          refine WX.s1 rfl rfl ?_
          refine WX.s1 rfl rfl ?_
          refine WX.s1 (S' := [.int ((nI (lgL a)) + 1), .int (nI b), .ref 1]) rfl rfl ?_
          rw [show ((nI (lgL a)) + 1) = nI (lgL a + 1) from nI_add (lgL a) 1]
          refine WX.callC (vs := [.ref 1, .int (nI b), .int (nI (lgL a + 1))]) rfl rfl rfl (Nat.le_of_ble_eq_true rfl) ((P_h_in).rcv (by omega)) ?_
          refine x_bits (d := d) (b := b) (c := lgL a + 1) hn (by omega) (by omega) P_h_in ?_
          show WX _ _ _ 146 [(0, .ref k), (1, .ref 1), (5, .int (nI E)), (6, .int (nI b)), (7, .int (nI a)), (8, .int (nI q)), (9, .int (nI (lgL a))), (10, .int (nI (rmN a))), (11, .int (nI (rbN l b (lgL a))))] [.int (nI (rbN l b (lgL a + 1)))] (n, s, h)
          refine WX.s1 (L' := [(0, .ref k), (1, .ref 1), (5, .int (nI E)), (6, .int (nI b)), (7, .int (nI a)), (8, .int (nI q)), (9, .int (nI (lgL a))), (10, .int (nI (rmN a))), (11, .int (nI (rbN l b (lgL a + 1))))]) rfl rfl ?_
          refine WX.s1 rfl rfl ?_
          refine WX.s1 rfl rfl ?_
          refine WX.s1 rfl rfl ?_
          refine WX.s1 (S' := [.int (1 <<< ((nI (lgL a)) &&& 31)), .int (nI (rbN l b (lgL a + 1)))]) rfl rfl ?_
          rw [sh1 (lgL a) (by omega)]
          refine WX.icmp rfl (fun c_154 => ?_) (fun c_154 => ?_)
          · skip
            have n_154 : (rbN l b (lgL a + 1)) < (2 ^ lgL a) := (nI_ltI (a := rbN l b (lgL a + 1)) (b := 2 ^ lgL a) (by omega) (by omega)).mp c_154
            refine WX.s1 rfl rfl ?_
            refine WX.s1 (L' := [(0, .ref k), (1, .ref 1), (5, .int (nI E)), (6, .int (nI b)), (7, .int (nI a)), (8, .int (nI q)), (9, .int (nI (lgL a))), (10, .int (nI (rmN a))), (11, .int (nI (rbN l b (lgL a + 1))))]) rfl rfl ?_
            refine WX.s1 (L' := [(0, .ref k), (1, .ref 1), (5, .int (nI E)), (6, .int ((nI b) + 1)), (7, .int (nI a)), (8, .int (nI q)), (9, .int (nI (lgL a))), (10, .int (nI (rmN a))), (11, .int (nI (rbN l b (lgL a + 1))))]) rfl rfl ?_
            rw [show ((nI b) + 1) = nI (b + 1) from nI_add b 1]
            have hcase : rbN l b (lgL a + 1) = if btN l (b + lgL a) = 1 then rbN l b (lgL a) + 2 ^ lgL a - rmN a else rbN l b (lgL a) := by
              rcases (show btN l (b + lgL a) = 0 ∨ btN l (b + lgL a) = 1 by omega) with z | z
              · rw [z] at hrs; rw [if_neg (by omega)]; omega
              · rw [z] at hrs; rw [if_pos z]; omega
            exact t172 _ 1 (by split at hcase <;> omega) (by decide) (rdU_x (Or.inr ⟨rfl, by omega, hcase⟩))
          · skip
            have n_154 : (2 ^ lgL a) ≤ (rbN l b (lgL a + 1)) := Nat.le_of_not_lt (fun zz_ => c_154 ((nI_ltI (a := rbN l b (lgL a + 1)) (b := 2 ^ lgL a) (by omega) (by omega)).mpr zz_))
            refine WX.s1 rfl rfl ?_
            refine WX.s1 rfl rfl ?_
            refine WX.s1 (S' := [.int ((nI (rbN l b (lgL a + 1))) - (nI (rmN a)))]) rfl rfl ?_
            rw [nI_subN (show rmN a ≤ rbN l b (lgL a + 1) by omega)]
            refine WX.s1 rfl rfl ?_
            refine WX.s1 (L' := [(0, .ref k), (1, .ref 1), (5, .int (nI E)), (6, .int (nI b)), (7, .int (nI a)), (8, .int (nI q)), (9, .int (nI (lgL a))), (10, .int (nI (rmN a))), (11, .int (nI (rbN l b (lgL a + 1) - rmN a)))]) rfl rfl ?_
            refine WX.s1 (L' := [(0, .ref k), (1, .ref 1), (5, .int (nI E)), (6, .int ((nI b) + 1)), (7, .int (nI a)), (8, .int (nI q)), (9, .int (nI (lgL a))), (10, .int (nI (rmN a))), (11, .int (nI (rbN l b (lgL a + 1) - rmN a)))]) rfl rfl ?_
            rw [show ((nI b) + 1) = nI (b + 1) from nI_add b 1]
            have hcase : rbN l b (lgL a + 1) - rmN a = if btN l (b + lgL a) = 1 then rbN l b (lgL a) + 2 ^ lgL a - rmN a else rbN l b (lgL a) := by
              rcases (show btN l (b + lgL a) = 0 ∨ btN l (b + lgL a) = 1 by omega) with z | z
              · rw [z] at hrs; rw [if_neg (by omega)]; omega
              · rw [z] at hrs; rw [if_pos z]; omega
            exact t172 _ 1 (by split at hcase <;> omega) (by decide) (rdU_x (Or.inr ⟨rfl, by omega, hcase⟩))
