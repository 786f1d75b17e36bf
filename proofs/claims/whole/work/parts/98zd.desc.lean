/-! a description: what it is -/
theorem addB_al (A w : Nat) (b : Nat × Nat) (x m : Nat) : addB (A + b.1, w + b.2 * 2 ^ A) x m = (A + (addB b x m).1, w + (addB b x m).2 * 2 ^ A) := addB_sh A w b.1 b.2 x m
theorem codeB_sh (A w a u : Nat) (b : Nat × Nat) : codeB a u (A + b.1, w + b.2 * 2 ^ A) = (A + (codeB a u b).1, w + (codeB a u b).2 * 2 ^ A) := by
  unfold codeB
  split
  · exact addB_al A w b _ _
  · exact addB_al A w b _ _
theorem thr_sh (A w : Nat) (b : Nat × Nat) : ∀ j, thr (A + b.1, w + b.2 * 2 ^ A) j = (A + (thr b j).1, w + (thr b j).2 * 2 ^ A) := by
  intro j
  induction j with
  | zero => rfl
  | succ j ih =>
    show addB (thr (A + b.1, w + b.2 * 2 ^ A) j) 3 2 = _
    rw [ih]
    exact addB_al A w _ _ _
theorem tellF_sh (A w : Nat) (u : Nat → Nat) : ∀ f s a b, tellF u f s a (A + b.1, w + b.2 * 2 ^ A) = (A + (tellF u f s a b).1, w + (tellF u f s a b).2 * 2 ^ A) := by
  intro f
  induction f with
  | zero => intro s a b; rfl
  | succ f ih =>
    intro s a b
    unfold tellF
    by_cases h1 : a = 0
    · rw [if_pos h1, if_pos h1]
    · rw [if_neg h1, if_neg h1]
      by_cases h2 : u s = 1
      · rw [if_pos h2, if_pos h2, ← ih]
        congr 1
        unfold zB
        rw [codeB_sh, thr_sh, addB_al]
      · rw [if_neg h2, if_neg h2, ← ih]
        congr 1
        exact codeB_sh A w _ _ b
theorem shB_sh (A w : Nat) (u : Nat → Nat) (o : Nat) : shB u o (A, w) = (A + (shB u o (0, 0)).1, w + (shB u o (0, 0)).2 * 2 ^ A) := by
  unfold shB
  have h := addB_sh A w 0 0 (o - 5) 4
  rw [Nat.add_zero, Nat.zero_mul, Nat.add_zero] at h
  rw [h]
  exact tellF_sh A w u 64 0 (2 ^ o) _
theorem tell_leN {u : Nat → Nat} {o N : Nat} (ho : o ≤ 9) (hN : N ≤ 64) (hS : mSum u N = 2 ^ o) : ∀ f x a b, N ≤ x + f → x ≤ N → a + mSum u x = 2 ^ o → (tellF u f x a b).1 ≤ b.1 + 13 * (N - x) := by
  have h2o : 2 ^ o ≤ 2 ^ 9 := Nat.pow_le_pow_right (by decide) ho
  intro f
  induction f with
  | zero =>
    intro x a b h1 h2 h3
    show b.1 ≤ _
    omega
  | succ f ih =>
    intro x a b h1 h2 h3
    by_cases ha : a = 0
    · rw [ha, tellF_0]; omega
    · have hx : x < N := by
        apply Classical.byContradiction
        intro q
        rw [show x = N by omega] at h3
        omega
      have hcl := code_le (u := u x) b (show a ≤ 512 by omega)
      have hmx : mSum u (x + 1) ≤ 2 ^ o := by rw [← hS]; exact mSum_mono u (by omega)
      rw [mSum_succ] at hmx
      by_cases hu : u x = 1
      · have hm0 : massU (u x) = 0 := by rw [hu]; rfl
        obtain ⟨z, z0, z1, z3⟩ := nz_ex (u := u) (a := x + 1) (k := N - (x + 1)) (by rw [show x + 1 + (N - (x + 1)) = N by omega, hS, mSum_succ]; omega)
        have hm1 := mSum_ones z z1
        rw [mSum_succ] at hm1
        have hzF : zF u 64 (x + 1) = z := zF_is z 64 (x + 1) (by omega) z1 z3
        rw [tellF_1 b ha hu hzF]
        have i2 := ih (x + 1 + z) a (zB (codeB a (u x) b) z) (by omega) (by omega) (by rw [hm1]; omega)
        have hzb : (zB (codeB a (u x) b) z).1 = (codeB a (u x) b).1 + 2 * (z / 3) + 2 := by
          unfold zB
          rw [addB1, thr_1]
        rw [hzb] at i2
        omega
      · rw [tellF_2 b ha hu]
        have i2 := ih (x + 1) (a - massU (u x)) (codeB a (u x) b) (by omega) (by omega) (by rw [mSum_succ]; omega)
        omega
noncomputable def lowE (u : Nat → Nat) (o s : Nat) : Nat := Classical.epsilon (fun p => IsLow u 64 o s p)
noncomputable def nxP (u : Nat → Nat) (o s st : Nat) : Nat := Classical.epsilon (fun p => ∃ W, IsNx u 64 o s st p W)
noncomputable def nxW (u : Nat → Nat) (o s st : Nat) : Nat := Classical.epsilon (fun W => IsNx u 64 o s st (nxP u o s st) W)
theorem low_of {u : Nat → Nat} {o s p : Nat} (h : IsLow u 64 o s p) : lowE u o s = p := low_uniq (Classical.epsilon_spec (p := fun p => IsLow u 64 o s p) ⟨p, h⟩) h
theorem nx_of2 {u : Nat → Nat} {o s st p W : Nat} (h1 : o = 0 ∨ 5 ≤ o) (h2 : o ≤ 9) (hS : mSum u 64 = 2 ^ o) (h : IsNx u 64 o s st p W) : nxP u o s st = p ∧ nxW u o s st = W := by
  have a : ∃ W, IsNx u 64 o s st (nxP u o s st) W := Classical.epsilon_spec (p := fun p => ∃ W, IsNx u 64 o s st p W) ⟨p, W, h⟩
  obtain ⟨V, hV⟩ := a
  have b := nx_uniq h1 h2 hS hV h
  have c : IsNx u 64 o s st (nxP u o s st) (nxW u o s st) := Classical.epsilon_spec (p := fun W => IsNx u 64 o s st (nxP u o s st) W) ⟨V, hV⟩
  have e := nx_uniq h1 h2 hS c h
  exact e
noncomputable def twB (u : Nat → Nat) (o : Nat) (ws : List Nat) : Nat → Nat → Nat → Nat × Nat → Nat × Nat
  | 0, a, b, B => addB (addB B a o) b o
  | i + 1, a, b, B => twB u o ws i b (nxP u o (ws.getD i 0) a) (addB B a (nxW u o (ws.getD i 0) a))
theorem twB_sh (A w : Nat) (u : Nat → Nat) (o : Nat) (ws : List Nat) : ∀ i a b B, twB u o ws i a b (A + B.1, w + B.2 * 2 ^ A) = (A + (twB u o ws i a b B).1, w + (twB u o ws i a b B).2 * 2 ^ A) := by
  intro i
  induction i with
  | zero =>
    intro a b B
    show addB (addB (A + B.1, w + B.2 * 2 ^ A) a o) b o = _
    rw [addB_al, addB_al]
    rfl
  | succ i ih =>
    intro a b B
    show twB u o ws i b _ (addB (A + B.1, w + B.2 * 2 ^ A) a _) = _
    rw [addB_al, ih]
    rfl
/-- all that a row of weights gives: the share's points, the bits of the two states, the bytes -/
noncomputable def wsU (ws : List Nat) (o : Nat) : Nat → Nat := wU (cdF ws).1 o 64
noncomputable def twE (ws : List Nat) (o : Nat) (B : Nat × Nat) : Nat × Nat := twB (wsU ws o) o ws (ws.length - 2) (lowE (wsU ws o) o (ws.getD (ws.length - 1) 0)) (lowE (wsU ws o) o (ws.getD (ws.length - 2) 0)) B
noncomputable def shY (ws : List Nat) (o : Nat) : List Nat := leBy (shB (wsU ws o) o (0, 0)).2 (((shB (wsU ws o) o (0, 0)).1 + 7) / 8)
noncomputable def twY (ws : List Nat) (o : Nat) : List Nat := leBy ((twE ws o (0, 0)).2 + 2 ^ (twE ws o (0, 0)).1) ((twE ws o (0, 0)).1 / 8 + 1)
noncomputable def stY (ws : List Nat) (o : Nat) : List Nat := shY ws o ++ twY ws o
def WsOk (ws : List Nat) : Prop := (∀ s, s ∈ ws → s ≤ 11) ∧ 2 ≤ ws.length ∧ ws.length ≤ 255 ∧ 2 ≤ (cdF ws).2
theorem ws_sy {ws : List Nat} (h : WsOk ws) : SyOk ws := ⟨fun s hs => by have := h.1 s hs; omega, by have := h.2.1; omega, by have := h.2.2.1; omega⟩
theorem ws_d {ws : List Nat} (h : WsOk ws) {o : Nat} (ho : 5 ≤ o) : (cdF ws).2 ≤ 2 ^ o := by
  have a := cd_le (N := 12) (fun s hs => by have := h.1 s hs; omega : ∀ s, s ∈ ws → s < 12)
  have b : 2 ^ 5 ≤ 2 ^ o := Nat.pow_le_pow_right (by decide) ho
  omega
theorem ws_S {ws : List Nat} (h : WsOk ws) {o : Nat} (ho : 5 ≤ o) (ho9 : o ≤ 9) : mSum (wsU ws o) 64 = 2 ^ o ∧ mSum (wsU ws o) 12 = 2 ^ o ∧ (∀ s, s ∈ ws → s < 64 ∧ massU (wsU ws o s) ≠ 0) ∧ ∀ s, s ∈ ws → massU (wsU ws o s) < 2 ^ o := by
  have hk := ws_sy h
  have hd := ws_d h ho
  obtain ⟨s1, s2⟩ := wU_sh hk hd
  have m := wU_m hk hd
  have hle : ∀ s, s ∈ ws → s ≤ 11 := h.1
  obtain ⟨s3, s4⟩ := own_l hk (show 11 < 64 by decide) hle (Or.inr ho) ho9 hd
  refine ⟨s1, s3, m, fun s hs => ?_⟩
  have hex : ∃ r, r ∈ ws ∧ r ≠ s := by
    apply Classical.byContradiction
    intro z
    have one := cd_same hk (x := s) (fun r hr => by
      apply Classical.byContradiction
      intro y
      exact z ⟨r, hr, y⟩)
    have := h.2.2.2
    omega
  obtain ⟨r, r1, r2⟩ := hex
  have mr := (m r r1).2
  have ms := hle s hs
  have mr2 := hle r r1
  have t : massU (wsU ws o s) + massU (wsU ws o r) ≤ mSum (wsU ws o) 64 := by
    by_cases q : s < r
    · exact sumN_two (f := fun x => massU (wsU ws o x)) q (by omega)
    · rw [Nat.add_comm]; exact sumN_two (f := fun x => massU (wsU ws o x)) (show r < s by omega) (by omega)
  have mr : massU (wsU ws o r) ≠ 0 := mr
  rw [show mSum (wsU ws o) 64 = 2 ^ o from s1] at t
  omega
theorem tw_1 {ws : List Nat} (h : WsOk ws) {o : Nat} (ho : 5 ≤ o) (ho9 : o ≤ 9) : ∀ i a b B, i ≤ ws.length → a < 2 ^ o → b < 2 ^ o → (twB (wsU ws o) o ws i a b B).1 ≤ B.1 + o * i + 2 * o := by
  obtain ⟨s1, -, s3, -⟩ := ws_S h ho ho9
  intro i
  induction i with
  | zero => intro a b B _ _ _; show B.1 + o + o ≤ _; omega
  | succ i ih =>
    intro a b B hi ha hb
    have hm := s3 _ (getD_mem (show i < ws.length by omega))
    obtain ⟨p, W, hN⟩ := nx_ex (Or.inr ho) ho9 s1 hm.1 hm.2 ha
    obtain ⟨e1, e2⟩ := nx_of2 (Or.inr ho) ho9 s1 hN
    obtain ⟨n1, n2⟩ := nx_lt hN
    show (twB (wsU ws o) o ws i b (nxP (wsU ws o) o (ws.getD i 0) a) (addB B a (nxW (wsU ws o) o (ws.getD i 0) a))).1 ≤ _
    rw [e1, e2]
    have q := ih b p (addB B a W) (by omega) hb n1
    rw [addB1] at q
    have e : o * (i + 1) = o * i + o := Nat.mul_succ o i
    omega
theorem lw_ex {ws : List Nat} (h : WsOk ws) {o i : Nat} (ho : 5 ≤ o) (ho9 : o ≤ 9) (hi : i < ws.length) : IsLow (wsU ws o) 64 o (ws.getD i 0) (lowE (wsU ws o) o (ws.getD i 0)) := by
  obtain ⟨s1, -, s3, -⟩ := ws_S h ho ho9
  have hm := s3 _ (getD_mem hi)
  obtain ⟨p, p1, p2, p3⟩ := plc (Or.inr ho) ho9 s1 hm.1 (show 0 < massU (wsU ws o (ws.getD i 0)) by omega)
  have hl : IsLow (wsU ws o) 64 o (ws.getD i 0) p := ⟨p1, p2, p3⟩
  rw [low_of hl]
  exact hl
theorem st_len {ws : List Nat} (h : WsOk ws) {o : Nat} (ho : 5 ≤ o) (ho6 : o ≤ 6) : (stY ws o).length ≤ 230 ∧ 1 ≤ (stY ws o).length ∧ (shB (wsU ws o) o (0, 0)).1 ≤ 160 ∧ (twE ws o (0, 0)).1 ≤ 1600 := by
  obtain ⟨s1, s2, s3, s4⟩ := ws_S h ho (by omega)
  have h3 := h.2.2.1
  have h2 := h.2.1
  have a : (shB (wsU ws o) o (0, 0)).1 ≤ 160 := by
    unfold shB
    have q := tell_leN (by omega) (by decide) s2 64 0 (2 ^ o) (addB (0, 0) (o - 5) 4) (by decide) (by decide) rfl
    rw [addB1] at q
    exact Nat.le_trans q (by decide)
  have l1 := (lw_ex h ho (by omega) (show ws.length - 1 < ws.length by omega)).1
  have l2 := (lw_ex h ho (by omega) (show ws.length - 2 < ws.length by omega)).1
  have b : (twE ws o (0, 0)).1 ≤ 0 + o * (ws.length - 2) + 2 * o := tw_1 h ho (by omega) _ _ _ _ (by omega) l1 l2
  have c : o * (ws.length - 2) ≤ 6 * 253 := Nat.mul_le_mul ho6 (by omega)
  unfold stY shY twY
  rw [List.length_append, leBy_len, leBy_len]
  omega
def lsF (L : Nat → Nat) : Nat → Nat
  | 0 => 0
  | n + 1 => if L (n + 1) = 0 then lsF L n else n + 1
theorem lsF_le (L : Nat → Nat) : ∀ n, lsF L n ≤ n := by
  intro n
  induction n with
  | zero => exact Nat.le_refl _
  | succ n ih => unfold lsF; split <;> omega
theorem lsF_nz {L : Nat → Nat} : ∀ {n s : Nat}, s ≤ n → L s ≠ 0 → s ≤ lsF L n ∧ L (lsF L n) ≠ 0 := by
  intro n
  induction n with
  | zero => intro s h1 h2; rw [show s = 0 by omega] at h2; exact ⟨by show s ≤ 0; omega, h2⟩
  | succ n ih =>
    intro s h1 h2
    unfold lsF
    by_cases z : L (n + 1) = 0
    · rw [if_pos z]
      exact ih (by
        by_cases e : s = n + 1
        · rw [e] at h2; exact absurd z h2
        · omega) h2
    · rw [if_neg z]; exact ⟨h1, z⟩
theorem lsF_is {L : Nat → Nat} {k : Nat} (h : L k ≠ 0) : ∀ n, (∀ s, k < s → s ≤ n → L s = 0) → k ≤ n → lsF L n = k := by
  intro n
  induction n with
  | zero => intro _ hk; show 0 = k; omega
  | succ n ih =>
    intro ha hk
    unfold lsF
    by_cases e : k = n + 1
    · rw [if_neg (by rw [← e]; exact h), e]
    · rw [if_pos (ha (n + 1) (by omega) (Nat.le_refl _))]
      exact ih (fun s h1 h2 => ha s h1 (by omega)) (by omega)
def wtL (L : Nat → Nat) (t : Nat) : List Nat := (List.range (lsF L 255)).map (wgK L t)
theorem wtL_len (L : Nat → Nat) (t : Nat) : (wtL L t).length = lsF L 255 := by simp [wtL]
theorem wtL_at {L : Nat → Nat} {t i : Nat} (h : i < lsF L 255) : (wtL L t).getD i 0 = wgK L t i := by
  unfold wtL
  rw [List.getD_eq_getElem?_getD, List.getElem?_map, List.getElem?_range h]
  rfl
def dirY (ws : List Nat) : List Nat := (127 + ws.length) :: (List.range ((ws.length + 1) / 2)).map (fun i => 16 * ws.getD (2 * i) 0 + (if 2 * i + 1 < ws.length then ws.getD (2 * i + 1) 0 else 0))
noncomputable def bsY (ws : List Nat) : List Nat := if (stY ws 6).length < (stY ws 5).length then stY ws 6 else stY ws 5
/-- so many bytes the states take, 0 when they can't -/
noncomputable def bsN (ws : List Nat) : Nat := if 2 ≤ (cdF ws).2 ∧ 2 ≤ ws.length ∧ (bsY ws).length < 128 then (bsY ws).length else 0
noncomputable def dsY (ws : List Nat) : Option (List Nat) := if ws.length ≤ 128 ∧ (bsN ws = 0 ∨ (ws.length + 1) / 2 ≤ bsN ws) then some (dirY ws) else if bsN ws = 0 then none else some (bsN ws :: bsY ws)
