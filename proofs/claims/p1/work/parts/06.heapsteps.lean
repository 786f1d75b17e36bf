/-! the steps that read and write the heap -/
def a_get (ci k nx : Nat) : aF := fun L S H => match S with
  | .ref a :: S => if a < H.1 then (match H.2.2 a with
    | .inr (c, fs) => if c = ci then (match fs[k]? with
      | some v => some (nx, L, v :: S, H)
      | none => none) else none
    | .inl _ => none) else none
  | _ => none
theorem a_get_inv {ci k nx : Nat} {L : aL} {S : List Value} {H : aH} {x : aS} (hx : a_get ci k nx L S H = some x) : ∃ a S1 fs v, S = .ref a :: S1 ∧ a < H.1 ∧ H.2.2 a = .inr (ci, fs) ∧ fs[k]? = some v ∧ x = (nx, L, v :: S1, H) := by
  unfold a_get at hx
  split at hx
  · split at hx
    · rename_i a S1 ha
      split at hx
      · rename_i c fs he
        split at hx
        · rename_i hc
          split at hx
          · rename_i v hv
            cases hx
            subst hc
            exact ⟨a, S1, fs, v, rfl, ha, he, hv, rfl⟩
          · cases hx
        · cases hx
      · cases hx
    · cases hx
  · cases hx
def a_put (ci k : Nat) (ty : FieldType) (nx : Nat) : aF := fun L S H => match S with
  | v :: .ref a :: S => if a < H.1 then (match H.2.2 a with
    | .inr (c, fs) => if c = ci then (if k < fs.length then (if fits ty v = true then some (nx, L, S, H.1, H.2.1, va_up H.2.2 a (.inr (ci, fs.set k v))) else none) else none) else none
    | .inl _ => none) else none
  | _ => none
theorem a_put_inv {ci k nx : Nat} {ty : FieldType} {L : aL} {S : List Value} {H : aH} {x : aS} (hx : a_put ci k ty nx L S H = some x) : ∃ a S1 fs v, S = v :: .ref a :: S1 ∧ a < H.1 ∧ H.2.2 a = .inr (ci, fs) ∧ k < fs.length ∧ fits ty v = true ∧ x = (nx, L, S1, H.1, H.2.1, va_up H.2.2 a (.inr (ci, fs.set k v))) := by
  unfold a_put at hx
  split at hx
  · split at hx
    · rename_i v a S1 ha
      split at hx
      · rename_i c fs he
        split at hx
        · rename_i hc
          split at hx
          · rename_i hk
            split at hx
            · rename_i hf
              cases hx
              subst hc
              exact ⟨a, S1, fs, v, rfl, ha, he, hk, hf, rfl⟩
            · cases hx
          · cases hx
        · cases hx
      · cases hx
    · cases hx
  · cases hx
theorem map_set_cv {z : Nat} {st : Nat → Nat} {fs : List Value} {k : Nat} {v : Value} : (fs.map (cv z st)).set k (cv z st v) = (fs.set k v).map (cv z st) := by rw [List.map_set]
theorem s_get {own C : String} {T : u_T} {N i ci f0 : Nat} (hc : cls[ci]? = some (C, T, N)) (hk : f0 < N) (hin : ∀ w ∈ u_ws C T N, w ∈ TBg) (hm : Cond.fieldLink own i (T f0).1 (T f0).2.1 (T f0).2.2.1 ∈ TBg) {cc : ByteArray} {nL : Nat} {nm : String} {pc : Nat} (d : decode cc pc = .ok (.getfield i, 3)) : Okf cc nL own nm pc (a_get ci f0 (pc + 3)) := by
  refine ⟨lm_in (by intro L L2 S H; unfold a_get; (repeat' split) <;> first | rfl | simp_all) (by intro L S H x hx; unfold a_get at hx; (repeat' split at hx) <;> first | (cases hx; rfl) | cases hx), fun L S H x hx => ?_, ?_⟩
  · obtain ⟨a, S1, fs, v, rfl, ha, he, hv, rfl⟩ := a_get_inv hx
    exact ⟨Nat.le_refl _, Nat.le_refl _⟩
  · intro D cy z st sl sx n0 s0 p l e R s m args below meth c Q C L S H x hx h1 h2 h3 h4 k
    obtain ⟨a, S1, fs, v, rfl, ha, he, hv, rfl⟩ := a_get_inv hx
    intro Hp locs ls hs hS hl
    have hP := hs.at_ ha
    rw [he] at hP
    show W p l e R s m args below meth c Hp locs _ _ Q (F0 m pc ls (cv z st (.ref a) :: S1.map (cv z st)))
    rw [cv_ref (Nat.lt_trans ha hs.2.1)]
    exact va_get (D := D) C.1 C.2.1 C.2.2.2.2.1 hin C.2.2.2.1 C.2.2.2.2.2.1.1 hP 0 rfl hc f0 hk (C.2.2.2.2.1 _ hm) (fun _ h => h) (v := cv z st v) (by rw [List.getElem?_map, hv]; rfl) d (k Hp locs ls hs hS hl)
theorem s_put {own C : String} {T : u_T} {N i ci f0 : Nat} {ty : FieldType} (ty0 : Nat → FieldType) (hty : ∀ k, k < N → parseFieldDescriptor (T k).2.2.1 = some (ty0 k)) (hnm : ∀ a, a < N → ∀ b, b < N → a ≠ b → (T a).2.1 ≠ (T b).2.1) (hc : cls[ci]? = some (C, T, N)) (hk : f0 < N) (hin : ∀ w ∈ u_ws C T N, w ∈ TBg) (hfin : (T f0).2.2.2 = false) (ht : ty0 f0 = ty) (htb : ty ≠ .byte ∧ ty ≠ .char ∧ ty ≠ .short) (hm : Cond.fieldLink own i (T f0).1 (T f0).2.1 (T f0).2.2.1 ∈ TBg) {cc : ByteArray} {nL : Nat} {nm : String} {pc : Nat} (d : decode cc pc = .ok (.putfield i, 3)) : Okf cc nL own nm pc (a_put ci f0 ty (pc + 3)) := by
  refine ⟨lm_in (by intro L L2 S H; unfold a_put; (repeat' split) <;> first | rfl | simp_all) (by intro L S H x hx; unfold a_put at hx; (repeat' split at hx) <;> first | (cases hx; rfl) | cases hx), fun L S H x hx => ?_, ?_⟩
  · obtain ⟨a, S1, fs, v, rfl, ha, he, hl, hf, rfl⟩ := a_put_inv hx
    exact ⟨Nat.le_refl _, Nat.le_refl _⟩
  · intro D cy z st sl sx n0 s0 p l e R s m args below meth c Q C L S H x hx h1 h2 h3 h4 k
    obtain ⟨a, S1, fs, v, rfl, ha, he, hkl, hf, rfl⟩ := a_put_inv hx
    intro Hp locs ls hs hS hl
    have hP := (hs.2.2.1 a ha).1
    rw [he] at hP
    show W p l e R s m args below meth c Hp locs _ _ Q (F0 m pc ls (cv z st v :: cv z st (.ref a) :: S1.map (cv z st)))
    rw [cv_ref (Nat.lt_trans ha hs.2.1)]
    have hf1 : fits ty (cv z st v) = true := fits_cv.trans hf
    refine vputK (D := D) C.1 C.2.1 C.2.2.2.2.1 hin ty0 hty hnm C.2.2.2.1 C.2.2.2.2.2.1.1 hP hc f0 hk (C.2.2.2.2.1 _ hm) hfin (ty := ty) ((hty f0 hk).trans (congrArg some ht)) (fits_narrow htb.1 htb.2.1 htb.2.2 hf1) hf1 (by rw [List.length_map]; exact hkl) d (fun H1 i he1 hz ho => ?_)
    rw [map_set_cv] at he1
    exact k H1 _ ls (hs.up ha (e := .inr (ci, fs.set f0 v)) he1 trivial hz ho) (vaS_put hS hz ho) hl
theorem s_putF {own C : String} {T : u_T} {N i ci f0 : Nat} {ty : FieldType} (ty0 : Nat → FieldType) (hty : ∀ k, k < N → parseFieldDescriptor (T k).2.2.1 = some (ty0 k)) (hnm : ∀ a, a < N → ∀ b, b < N → a ≠ b → (T a).2.1 ≠ (T b).2.1) (hc : cls[ci]? = some (C, T, N)) (hk : f0 < N) (hin : ∀ w ∈ u_ws C T N, w ∈ TBg) (hfin : (T f0).2.2.2 = true) (hdecl : (T f0).1 = own) (ht : ty0 f0 = ty) (htb : ty ≠ .byte ∧ ty ≠ .char ∧ ty ≠ .short) (hm : Cond.fieldLink own i (T f0).1 (T f0).2.1 (T f0).2.2.1 ∈ TBg) {cc : ByteArray} {nL : Nat} {pc : Nat} (d : decode cc pc = .ok (.putfield i, 3)) : Okf cc nL own "<init>" pc (a_put ci f0 ty (pc + 3)) := by
  refine ⟨lm_in (by intro L L2 S H; unfold a_put; (repeat' split) <;> first | rfl | simp_all) (by intro L S H x hx; unfold a_put at hx; (repeat' split at hx) <;> first | (cases hx; rfl) | cases hx), fun L S H x hx => ?_, ?_⟩
  · obtain ⟨a, S1, fs, v, rfl, ha, he, hl, hf, rfl⟩ := a_put_inv hx
    exact ⟨Nat.le_refl _, Nat.le_refl _⟩
  · intro D cy z st sl sx n0 s0 p l e R s m args below meth c Q C L S H x hx h1 h2 h3 h4 k
    obtain ⟨a, S1, fs, v, rfl, ha, he, hkl, hf, rfl⟩ := a_put_inv hx
    intro Hp locs ls hs hS hl
    have hP := (hs.2.2.1 a ha).1
    rw [he] at hP
    show W p l e R s m args below meth c Hp locs _ _ Q (F0 m pc ls (cv z st v :: cv z st (.ref a) :: S1.map (cv z st)))
    rw [cv_ref (Nat.lt_trans ha hs.2.1)]
    have hf1 : fits ty (cv z st v) = true := fits_cv.trans hf
    refine vputF (D := D) C.1 C.2.1 C.2.2.2.2.1 hin ty0 hty hnm C.2.2.2.1 C.2.2.2.2.2.1.1 hP hc f0 hk (C.2.2.2.2.1 _ hm) hfin C.2.2.2.2.2.2.2.2.1 hdecl (ty := ty) ((hty f0 hk).trans (congrArg some ht)) (fits_narrow htb.1 htb.2.1 htb.2.2 hf1) hf1 (by rw [List.length_map]; exact hkl) d (fun H1 i he1 hz ho => ?_)
    rw [map_set_cv] at he1
    exact k H1 _ ls (hs.up ha (e := .inr (ci, fs.set f0 v)) he1 trivial hz ho) (vaS_put hS hz ho) hl
/-- the array's number may be one that was there before -/
def a_len (nx : Nat) : aF := fun L S H => match S with
  | .ref a :: S => (match H.2.2 a with
    | .inl (t, n, _) => if a < H.1 ∧ t < 4 ∨ aBig ≤ a ∧ a < aBig + 10 then some (nx, L, .int (Int32.ofNat n) :: S, H) else none
    | .inr _ => none)
  | _ => none
theorem a_len_inv {nx : Nat} {L : aL} {S : List Value} {H : aH} {x : aS} (hx : a_len nx L S H = some x) : ∃ a S1 t n b, S = .ref a :: S1 ∧ H.2.2 a = .inl (t, n, b) ∧ (a < H.1 ∧ t < 4 ∨ aBig ≤ a ∧ a < aBig + 10) ∧ x = (nx, L, .int (Int32.ofNat n) :: S1, H) := by
  unfold a_len at hx
  split at hx
  · split at hx
    · rename_i a S1 x2 t n b he
      split at hx
      · rename_i ha
        cases hx
        exact ⟨a, S1, t, n, b, rfl, he, ha, rfl⟩
      · cases hx
    · cases hx
  · cases hx
theorem tys_at (cy : Nat → ClassId) {t : Nat} (h : t < 4) : ∃ ty, (tysOf cy)[t]? = some (cy t, ty) := by
  match t, h with
  | 0, _ => exact ⟨_, rfl⟩
  | 1, _ => exact ⟨_, rfl⟩
  | 2, _ => exact ⟨_, rfl⟩
  | 3, _ => exact ⟨_, rfl⟩
theorem s_len {own : String} {cc : ByteArray} {nL : Nat} {nm : String} {pc : Nat} (d : decode cc pc = .ok (.arraylength, 1)) : Okf cc nL own nm pc (a_len (pc + 1)) := by
  refine ⟨lm_in (by intro L L2 S H; unfold a_len; (repeat' split) <;> first | rfl | simp_all) (by intro L S H x hx; unfold a_len at hx; (repeat' split at hx) <;> first | (cases hx; rfl) | cases hx), fun L S H x hx => ?_, ?_⟩
  · obtain ⟨a, S1, t, n, b, rfl, he, ha, rfl⟩ := a_len_inv hx
    exact ⟨Nat.le_refl _, Nat.le_refl _⟩
  · intro D cy z st sl sx n0 s0 p l e R s m args below meth c Q C L S H x hx h1 h2 h3 h4 k
    obtain ⟨a, S1, t, n, b, rfl, he, ha, rfl⟩ := a_len_inv hx
    intro Hp locs ls hs hS hl
    show W p l e R s m args below meth c Hp locs _ _ Q (F0 m pc ls (cv z st (.ref a) :: S1.map (cv z st)))
    rcases ha with ⟨ha, ht⟩ | ⟨ha, hb⟩
    · have hP := hs.at_ ha
      rw [he] at hP
      rw [cv_ref (Nat.lt_trans ha hs.2.1)]
      obtain ⟨ty, hty⟩ := tys_at cy ht
      exact va_alen (D := D) (cA := cy t) C.1 C.2.1 C.2.2.2.2.2.1.1 hP 0 t rfl hty rfl d (k Hp locs ls hs hS hl)
    · obtain ⟨j, rfl⟩ : ∃ j, a = aBig + j := ⟨a - aBig, (Nat.add_sub_cancel' ha).symm⟩
      have hj : j < 10 := Nat.lt_of_add_lt_add_left hb
      rw [cv_sref]
      have e1 := (hs.2.2.2 j hj).symm.trans he
      cases e1
      exact va_tlen C.1 C.2.1 (C.2.2.2.2.2.1.2.1 j hj) hS rfl d (k Hp locs ls hs hS hl)

def a_iald (nx : Nat) : aF := fun L S H => match S with
  | .int i :: .ref a :: S => (match H.2.2 a with
    | .inl (t, n, .inl f) => if (a < H.1 ∨ aBig ≤ a ∧ a < aBig + 10) ∧ t = 1 ∧ ¬ (i < 0 ∨ n ≤ i.toNatClampNeg) then some (nx, L, .int (f i.toNatClampNeg) :: S, H) else none
    | _ => none)
  | _ => none
theorem s_iald {own : String} {cc : ByteArray} {nL : Nat} {nm : String} {pc : Nat} (d : decode cc pc = .ok (.iaload, 1)) : Okf cc nL own nm pc (a_iald (pc + 1)) := by
  refine ⟨lm_in (by intro L L2 S H; unfold a_iald; (repeat' split) <;> first | rfl | simp_all) (by intro L S H x hx; unfold a_iald at hx; (repeat' split at hx) <;> first | (cases hx; rfl) | cases hx), fun L S H x hx => ?_, ?_⟩
  · unfold a_iald at hx
    split at hx
    · split at hx
      · split at hx
        · cases hx; exact ⟨Nat.le_refl _, Nat.le_refl _⟩
        · cases hx
      · cases hx
    · cases hx
  · intro D cy z st sl sx n0 s0 p l e R s m args below meth c Q C L S H x hx h1 h2 h3 h4 k
    unfold a_iald at hx
    split at hx
    · rename_i i a S1
      split at hx
      · rename_i t n f he
        split at hx
        · rename_i ha
          obtain ⟨ha, rfl, hi⟩ := ha
          cases hx
          intro Hp locs ls hs hS hl
          show W p l e R s m args below meth c Hp locs _ _ Q (F0 m pc ls (.int i :: cv z st (.ref a) :: S1.map (cv z st)))
          rcases ha with ha | ⟨ha, hb⟩
          · have hP := hs.at_ ha
            rw [he] at hP
            rw [cv_ref (Nat.lt_trans ha hs.2.1)]
            exact va_iald (D := D) (cA := cy 1) C.1 C.2.1 C.2.2.2.2.2.1.1 hP 0 1 rfl rfl hi d (k Hp locs ls hs hS hl)
          · obtain ⟨j, rfl⟩ : ∃ j, a = aBig + j := ⟨a - aBig, (Nat.add_sub_cancel' ha).symm⟩
            have hj : j < 10 := Nat.lt_of_add_lt_add_left hb
            rw [cv_sref]
            have e1 := (hs.2.2.2 j hj).symm.trans he
            cases e1
            exact va_ti C.1 C.2.1 (C.2.2.2.2.2.1.2.1 j hj) hS hi rfl d (k Hp locs ls hs hS hl)
        · cases hx
      · cases hx
    · cases hx

def a_bald (nx : Nat) : aF := fun L S H => match S with
  | .int i :: .ref a :: S => (match H.2.2 a with
    | .inl (t, n, .inl f) => if a < H.1 ∧ t = 0 ∧ ¬ (i < 0 ∨ n ≤ i.toNatClampNeg) then some (nx, L, .int (f i.toNatClampNeg) :: S, H) else none
    | _ => none)
  | _ => none
def a_zald (nx : Nat) : aF := fun L S H => match S with
  | .int i :: .ref a :: S => (match H.2.2 a with
    | .inl (t, n, .inl f) => if a < H.1 ∧ t = 3 ∧ ¬ (i < 0 ∨ n ≤ i.toNatClampNeg) then some (nx, L, .int (f i.toNatClampNeg) :: S, H) else none
    | _ => none)
  | _ => none
def a_lald (nx : Nat) : aF := fun L S H => match S with
  | .int i :: .ref a :: S => (match H.2.2 a with
    | .inl (t, n, .inr (.inl f)) => if a < H.1 ∧ t = 2 ∧ ¬ (i < 0 ∨ n ≤ i.toNatClampNeg) then some (nx, L, .long (f i.toNatClampNeg) :: S, H) else none
    | _ => none)
  | _ => none
theorem s_bald {own : String} {cc : ByteArray} {nL : Nat} {nm : String} {pc : Nat} (d : decode cc pc = .ok (.baload, 1)) : Okf cc nL own nm pc (a_bald (pc + 1)) := by
  refine ⟨lm_in (by intro L L2 S H; unfold a_bald; (repeat' split) <;> first | rfl | simp_all) (by intro L S H x hx; unfold a_bald at hx; (repeat' split at hx) <;> first | (cases hx; rfl) | cases hx), fun L S H x hx => ?_, ?_⟩
  · unfold a_bald at hx
    split at hx
    · split at hx
      · split at hx
        · cases hx; exact ⟨Nat.le_refl _, Nat.le_refl _⟩
        · cases hx
      · cases hx
    · cases hx
  · intro D cy z st sl sx n0 s0 p l e R s m args below meth c Q C L S H x hx h1 h2 h3 h4 k
    unfold a_bald at hx
    split at hx
    · rename_i i a S1
      split at hx
      · rename_i t n f he
        split at hx
        · rename_i ha
          obtain ⟨ha, rfl, hi⟩ := ha
          cases hx
          intro Hp locs ls hs hS hl
          show W p l e R s m args below meth c Hp locs _ _ Q (F0 m pc ls (.int i :: cv z st (.ref a) :: S1.map (cv z st)))
          have hP := hs.at_ ha
          rw [he] at hP
          rw [cv_ref (Nat.lt_trans ha hs.2.1)]
          exact va_bald (D := D) (cA := cy 0) C.1 C.2.1 C.2.2.2.2.2.1.1 hP 0 0 rfl rfl hi d (k Hp locs ls hs hS hl)
        · cases hx
      · cases hx
    · cases hx
theorem s_zald {own : String} {cc : ByteArray} {nL : Nat} {nm : String} {pc : Nat} (d : decode cc pc = .ok (.baload, 1)) : Okf cc nL own nm pc (a_zald (pc + 1)) := by
  refine ⟨lm_in (by intro L L2 S H; unfold a_zald; (repeat' split) <;> first | rfl | simp_all) (by intro L S H x hx; unfold a_zald at hx; (repeat' split at hx) <;> first | (cases hx; rfl) | cases hx), fun L S H x hx => ?_, ?_⟩
  · unfold a_zald at hx
    split at hx
    · split at hx
      · split at hx
        · cases hx; exact ⟨Nat.le_refl _, Nat.le_refl _⟩
        · cases hx
      · cases hx
    · cases hx
  · intro D cy z st sl sx n0 s0 p l e R s m args below meth c Q C L S H x hx h1 h2 h3 h4 k
    unfold a_zald at hx
    split at hx
    · rename_i i a S1
      split at hx
      · rename_i t n f he
        split at hx
        · rename_i ha
          obtain ⟨ha, rfl, hi⟩ := ha
          cases hx
          intro Hp locs ls hs hS hl
          show W p l e R s m args below meth c Hp locs _ _ Q (F0 m pc ls (.int i :: cv z st (.ref a) :: S1.map (cv z st)))
          have hP := hs.at_ ha
          rw [he] at hP
          rw [cv_ref (Nat.lt_trans ha hs.2.1)]
          exact va_zald (D := D) (cA := cy 3) C.1 C.2.1 C.2.2.2.2.2.1.1 hP 0 3 rfl rfl hi d (k Hp locs ls hs hS hl)
        · cases hx
      · cases hx
    · cases hx
theorem s_lald {own : String} {cc : ByteArray} {nL : Nat} {nm : String} {pc : Nat} (d : decode cc pc = .ok (.laload, 1)) : Okf cc nL own nm pc (a_lald (pc + 1)) := by
  refine ⟨lm_in (by intro L L2 S H; unfold a_lald; (repeat' split) <;> first | rfl | simp_all) (by intro L S H x hx; unfold a_lald at hx; (repeat' split at hx) <;> first | (cases hx; rfl) | cases hx), fun L S H x hx => ?_, ?_⟩
  · unfold a_lald at hx
    split at hx
    · split at hx
      · split at hx
        · cases hx; exact ⟨Nat.le_refl _, Nat.le_refl _⟩
        · cases hx
      · cases hx
    · cases hx
  · intro D cy z st sl sx n0 s0 p l e R s m args below meth c Q C L S H x hx h1 h2 h3 h4 k
    unfold a_lald at hx
    split at hx
    · rename_i i a S1
      split at hx
      · rename_i t n f he
        split at hx
        · rename_i ha
          obtain ⟨ha, rfl, hi⟩ := ha
          cases hx
          intro Hp locs ls hs hS hl
          show W p l e R s m args below meth c Hp locs _ _ Q (F0 m pc ls (.int i :: cv z st (.ref a) :: S1.map (cv z st)))
          have hP := hs.at_ ha
          rw [he] at hP
          rw [cv_ref (Nat.lt_trans ha hs.2.1)]
          exact va_lald (D := D) (cA := cy 2) C.1 C.2.1 C.2.2.2.2.2.1.1 hP 0 2 rfl rfl hi d (k Hp locs ls hs hS hl)
        · cases hx
      · cases hx
    · cases hx
def a_iast (nx : Nat) : aF := fun L S H => match S with
  | .int v :: .int i :: .ref a :: S => (match H.2.2 a with
    | .inl (t, n, .inl f) => if a < H.1 ∧ t = 1 ∧ ¬ (i < 0 ∨ n ≤ i.toNatClampNeg) then some (nx, L, S, H.1, H.2.1, va_up H.2.2 a (.inl (1, n, .inl (upd f i.toNatClampNeg v)))) else none
    | _ => none)
  | _ => none
theorem s_iast {own : String} {cc : ByteArray} {nL : Nat} {nm : String} {pc : Nat} (d : decode cc pc = .ok (.iastore, 1)) : Okf cc nL own nm pc (a_iast (pc + 1)) := by
  refine ⟨lm_in (by intro L L2 S H; unfold a_iast; (repeat' split) <;> first | rfl | simp_all) (by intro L S H x hx; unfold a_iast at hx; (repeat' split at hx) <;> first | (cases hx; rfl) | cases hx), fun L S H x hx => ?_, ?_⟩
  · unfold a_iast at hx
    split at hx
    · split at hx
      · split at hx
        · cases hx; exact ⟨Nat.le_refl _, Nat.le_refl _⟩
        · cases hx
      · cases hx
    · cases hx
  · intro D cy z st sl sx n0 s0 p l e R s m args below meth c Q C L S H x hx h1 h2 h3 h4 k
    unfold a_iast at hx
    split at hx
    · rename_i v i a S1
      split at hx
      · rename_i t n f he
        split at hx
        · rename_i ha
          obtain ⟨ha, rfl, hi⟩ := ha
          cases hx
          intro Hp locs ls hs hS hl
          show W p l e R s m args below meth c Hp locs _ _ Q (F0 m pc ls (.int v :: .int i :: cv z st (.ref a) :: S1.map (cv z st)))
          have hP := (hs.2.2.1 a ha).1
          have hF := (hs.2.2.1 a ha).2
          rw [he] at hP hF
          have hP : Hp[z + a]? = some (vp_cell (cy 1) (n, .inl f)) := hP
          rw [cv_ref (Nat.lt_trans ha hs.2.1)]
          refine W.iast C.1 C.2.1 hP ((C.2.2.2.2.2.1.1.2 1 _ rfl).1 n _) (fun q => by cases q) (by show ¬ (i < 0 ∨ (arrV _ _ _).slots.size ≤ _); rw [arrV_size]; exact hi) rfl rfl d (fun H1 e1 hz ho => ?_)
          rw [cell_up] at e1
          exact k H1 _ ls (hs.up ha (e := .inl (1, n, .inl (upd f i.toNatClampNeg v))) e1 (fun h => by cases h) hz ho) (vaS_put hS hz ho) hl
        · cases hx
      · cases hx
    · cases hx
def a_last (nx : Nat) : aF := fun L S H => match S with
  | .long v :: .int i :: .ref a :: S => (match H.2.2 a with
    | .inl (t, n, .inr (.inl f)) => if a < H.1 ∧ t = 2 ∧ ¬ (i < 0 ∨ n ≤ i.toNatClampNeg) then some (nx, L, S, H.1, H.2.1, va_up H.2.2 a (.inl (2, n, .inr (.inl (vp_updL f i.toNatClampNeg v))))) else none
    | _ => none)
  | _ => none
theorem s_last {own : String} {cc : ByteArray} {nL : Nat} {nm : String} {pc : Nat} (d : decode cc pc = .ok (.lastore, 1)) : Okf cc nL own nm pc (a_last (pc + 1)) := by
  refine ⟨lm_in (by intro L L2 S H; unfold a_last; (repeat' split) <;> first | rfl | simp_all) (by intro L S H x hx; unfold a_last at hx; (repeat' split at hx) <;> first | (cases hx; rfl) | cases hx), fun L S H x hx => ?_, ?_⟩
  · unfold a_last at hx
    split at hx
    · split at hx
      · split at hx
        · cases hx; exact ⟨Nat.le_refl _, Nat.le_refl _⟩
        · cases hx
      · cases hx
    · cases hx
  · intro D cy z st sl sx n0 s0 p l e R s m args below meth c Q C L S H x hx h1 h2 h3 h4 k
    unfold a_last at hx
    split at hx
    · rename_i v i a S1
      split at hx
      · rename_i t n f he
        split at hx
        · rename_i ha
          obtain ⟨ha, rfl, hi⟩ := ha
          cases hx
          intro Hp locs ls hs hS hl
          show W p l e R s m args below meth c Hp locs _ _ Q (F0 m pc ls (.long v :: .int i :: cv z st (.ref a) :: S1.map (cv z st)))
          have hP := (hs.2.2.1 a ha).1
          have hF := (hs.2.2.1 a ha).2
          rw [he] at hP hF
          have hP : Hp[z + a]? = some (vp_cell (cy 2) (n, .inr (.inl f))) := hP
          rw [cv_ref (Nat.lt_trans ha hs.2.1)]
          refine W.last C.1 C.2.1 hP ((C.2.2.2.2.2.1.1.2 2 _ rfl).1 n _) (fun q => by cases q) (by show ¬ (i < 0 ∨ (arrV _ _ _).slots.size ≤ _); rw [arrV_size]; exact hi) rfl rfl d (fun H1 e1 hz ho => ?_)
          rw [cell_upL] at e1
          exact k H1 _ ls (hs.up ha (e := .inl (2, n, .inr (.inl (vp_updL f i.toNatClampNeg v)))) e1 trivial hz ho) (vaS_put hS hz ho) hl
        · cases hx
      · cases hx
    · cases hx
def a_bast (nx : Nat) : aF := fun L S H => match S with
  | .int v :: .int i :: .ref a :: S => (match H.2.2 a with
    | .inl (t, n, .inl f) => if a < H.1 ∧ t = 0 ∧ ¬ (i < 0 ∨ n ≤ i.toNatClampNeg) then some (nx, L, S, H.1, H.2.1, va_up H.2.2 a (.inl (0, n, .inl (upd f i.toNatClampNeg v.toInt8.toInt32)))) else none
    | _ => none)
  | _ => none
theorem s_bast {own : String} {cc : ByteArray} {nL : Nat} {nm : String} {pc : Nat} (d : decode cc pc = .ok (.bastore, 1)) : Okf cc nL own nm pc (a_bast (pc + 1)) := by
  refine ⟨lm_in (by intro L L2 S H; unfold a_bast; (repeat' split) <;> first | rfl | simp_all) (by intro L S H x hx; unfold a_bast at hx; (repeat' split at hx) <;> first | (cases hx; rfl) | cases hx), fun L S H x hx => ?_, ?_⟩
  · unfold a_bast at hx
    split at hx
    · split at hx
      · split at hx
        · cases hx; exact ⟨Nat.le_refl _, Nat.le_refl _⟩
        · cases hx
      · cases hx
    · cases hx
  · intro D cy z st sl sx n0 s0 p l e R s m args below meth c Q C L S H x hx h1 h2 h3 h4 k
    unfold a_bast at hx
    split at hx
    · rename_i v i a S1
      split at hx
      · rename_i t n f he
        split at hx
        · rename_i ha
          obtain ⟨ha, rfl, hi⟩ := ha
          cases hx
          intro Hp locs ls hs hS hl
          show W p l e R s m args below meth c Hp locs _ _ Q (F0 m pc ls (.int v :: .int i :: cv z st (.ref a) :: S1.map (cv z st)))
          have hP := (hs.2.2.1 a ha).1
          have hF := (hs.2.2.1 a ha).2
          rw [he] at hP hF
          have hP : Hp[z + a]? = some (vp_cell (cy 0) (n, .inl f)) := hP
          rw [cv_ref (Nat.lt_trans ha hs.2.1)]
          refine W.bast C.1 C.2.1 hP ((C.2.2.2.2.2.1.1.2 0 _ rfl).1 n _) (fun q => by cases q) (by show ¬ (i < 0 ∨ (arrV _ _ _).slots.size ≤ _); rw [arrV_size]; exact hi) rfl rfl d (fun H1 e1 hz ho => ?_)
          rw [show narrow .byte (.int v) = .int v.toInt8.toInt32 from rfl, cell_up] at e1
          exact k H1 _ ls (hs.up ha (e := .inl (0, n, .inl (upd f i.toNatClampNeg v.toInt8.toInt32))) e1 (fun _ => sb_fitU (hF rfl) (pk_fb v)) hz ho) (vaS_put hS hz ho) hl
        · cases hx
      · cases hx
    · cases hx
def a_zast (nx : Nat) : aF := fun L S H => match S with
  | .int v :: .int i :: .ref a :: S => (match H.2.2 a with
    | .inl (t, n, .inl f) => if a < H.1 ∧ t = 3 ∧ ¬ (i < 0 ∨ n ≤ i.toNatClampNeg) then some (nx, L, S, H.1, H.2.1, va_up H.2.2 a (.inl (3, n, .inl (upd f i.toNatClampNeg (v &&& 1))))) else none
    | _ => none)
  | _ => none
theorem s_zast {own : String} {cc : ByteArray} {nL : Nat} {nm : String} {pc : Nat} (d : decode cc pc = .ok (.bastore, 1)) : Okf cc nL own nm pc (a_zast (pc + 1)) := by
  refine ⟨lm_in (by intro L L2 S H; unfold a_zast; (repeat' split) <;> first | rfl | simp_all) (by intro L S H x hx; unfold a_zast at hx; (repeat' split at hx) <;> first | (cases hx; rfl) | cases hx), fun L S H x hx => ?_, ?_⟩
  · unfold a_zast at hx
    split at hx
    · split at hx
      · split at hx
        · cases hx; exact ⟨Nat.le_refl _, Nat.le_refl _⟩
        · cases hx
      · cases hx
    · cases hx
  · intro D cy z st sl sx n0 s0 p l e R s m args below meth c Q C L S H x hx h1 h2 h3 h4 k
    unfold a_zast at hx
    split at hx
    · rename_i v i a S1
      split at hx
      · rename_i t n f he
        split at hx
        · rename_i ha
          obtain ⟨ha, rfl, hi⟩ := ha
          cases hx
          intro Hp locs ls hs hS hl
          show W p l e R s m args below meth c Hp locs _ _ Q (F0 m pc ls (.int v :: .int i :: cv z st (.ref a) :: S1.map (cv z st)))
          have hP := (hs.2.2.1 a ha).1
          have hF := (hs.2.2.1 a ha).2
          rw [he] at hP hF
          have hP : Hp[z + a]? = some (vp_cell (cy 3) (n, .inl f)) := hP
          rw [cv_ref (Nat.lt_trans ha hs.2.1)]
          refine W.zast C.1 C.2.1 hP ((C.2.2.2.2.2.1.1.2 3 _ rfl).1 n _) (fun q => by cases q) (by show ¬ (i < 0 ∨ (arrV _ _ _).slots.size ≤ _); rw [arrV_size]; exact hi) rfl rfl d (fun H1 e1 hz ho => ?_)
          rw [show narrow .boolean (.int v) = .int (v &&& 1) from rfl, cell_up] at e1
          exact k H1 _ ls (hs.up ha (e := .inl (3, n, .inl (upd f i.toNatClampNeg (v &&& 1)))) e1 (fun h => by cases h) hz ho) (vaS_put hS hz ho) hl
        · cases hx
      · cases hx
    · cases hx
