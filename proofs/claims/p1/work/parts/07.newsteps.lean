/-! the steps that make cells, read statics, copy rows, and the JDK's leaves -/
def zrow (t : Nat) : (Nat → Int32) ⊕ (Nat → Int64) ⊕ (Nat → UInt32) ⊕ (Nat → UInt64) ⊕ (Nat → Option Nat) := if t = 2 then .inr (.inl (fun _ => 0)) else .inl (fun _ => 0)
def a_newa (t nx : Nat) : aF := fun L S H => match S with
  | .int n :: S => if ¬ n < 0 ∧ n.toNatClampNeg ≤ 60000000 ∧ H.1 + 1 < aBig then some (nx, L, .ref H.1 :: S, H.1 + 1, H.2.1 + n.toNatClampNeg, va_up H.2.2 H.1 (.inl (t, n.toNatClampNeg, zrow t))) else none
  | _ => none
theorem s_newa {t : Nat} {ty : FieldType} {atype : ArrayType} (hty : newarray.typeOf atype = ty) (htt : ∀ cy : Nat → ClassId, (tysOf cy)[t]? = some (cy t, ty)) (hRA : ∀ (U : State) (cA : ClassId), va_RA U cA ty → U.vm.findClass ("[" ++ ty.toString) = some cA) (hby : componentBytes ty ≤ 8) (hz : ∀ (cA : ClassId) (N : Nat), vp_cell cA (N, zrow t) = arrV cA N (fun _ => defaultValue ty)) (hm : Cond.arrayClass ty ∈ TBg) {own : String} {cc : ByteArray} {nL : Nat} {nm : String} {pc : Nat} (d : decode cc pc = .ok (.newarray atype, 2)) : Okf cc nL own nm pc (a_newa t (pc + 2)) := by
  subst hty
  refine ⟨lm_in (by intro L L2 S H; unfold a_newa; (repeat' split) <;> first | rfl | simp_all) (by intro L S H x hx; unfold a_newa at hx; (repeat' split at hx) <;> first | (cases hx; rfl) | cases hx), fun L S H x hx => ?_, ?_⟩
  · unfold a_newa at hx
    split at hx
    · split at hx
      · cases hx; exact ⟨Nat.le_succ _, Nat.le_add_right _ _⟩
      · cases hx
    · cases hx
  · intro D cy z st sl sx n0 s0 p l e R s m args below meth c Q C L S H x hx h1 h2 h3 h4 k
    unfold a_newa at hx
    split at hx
    · rename_i n S1
      split at hx
      · rename_i hn
        cases hx
        dsimp only at h3 h4 k
        intro Hp locs ls hs hS hl
        refine va_newaK C.1 C.2.1 (C.2.2.2.2.1 _ hm) (g := F0 m pc ls (.int n :: S1.map (cv z st))) rfl d rfl hn.1 rfl (Nat.le_trans (Nat.mul_le_mul hn.2.1 hby) (by decide)) (by omega) (by omega) rfl (fun H1 cA e1 hz1 ho hA hf => ?_)
        have hcA : cA = cy t := Option.some.inj (hf.symm.trans (hRA _ _ (C.2.2.2.2.2.1.1.2 t _ (htt cy)).2))
        subst hcA
        have e2 : va_at D cls (z + H.1, cvE z st cy (.inl (t, n.toNatClampNeg, zrow t))) H1 := by
          show H1[z + H.1]? = some (vp_cell (cy t) (n.toNatClampNeg, zrow t))
          rw [hz, ← hs.1]
          exact e1
        have hF : Fit (.inl (t, n.toNatClampNeg, zrow t)) := by
          unfold zrow
          split
          · trivial
          · exact fun _ _ => rfl
        have kk := k H1 locs ls (hs.push (n := n.toNatClampNeg) hn.2.2 e2 hF hz1 ho) (vaS_push hS hz1 ho) hl
        rw [List.map_cons, cv_ref hs.2.1, ← hs.1, show H.1 + 1 - n0 = H.1 - n0 + 1 by omega, show H.2.1 + n.toNatClampNeg - s0 = H.2.1 - s0 + n.toNatClampNeg by omega] at kk
        exact kk
      · cases hx
    · cases hx
def a_new (ci N : Nat) (fs : List Value) (nx : Nat) : aF := fun L S H => if H.1 + 1 < aBig then some (nx, L, .ref H.1 :: S, H.1 + 1, H.2.1 + N, va_up H.2.2 H.1 (.inr (ci, fs))) else none
theorem s_new {own C : String} {T : u_T} {N i ci : Nat} {fs : List Value} (ty0 : Nat → FieldType) (hty : ∀ k, k < N → parseFieldDescriptor (T k).2.2.1 = some (ty0 k)) (hc : cls[ci]? = some (C, T, N)) (hin : ∀ w ∈ u_ws C T N, w ∈ TBg) (hfs : ∀ j, j < N → defaultValue (ty0 j) = vp_V fs j) (hcv : ∀ z st, fs.map (cv z st) = fs) (hm1 : Cond.classLink own i C ∈ TBg) (hm2 : Cond.instantiable C N ∈ TBg) (hm3 : Cond.initialized C ∈ TBg) {cc : ByteArray} {nL : Nat} {nm : String} {pc : Nat} (d : decode cc pc = .ok (.new i, 3)) : Okf cc nL own nm pc (a_new ci N fs (pc + 3)) := by
  refine ⟨lm_in (by intro L L2 S H; unfold a_new; (repeat' split) <;> first | rfl | simp_all) (by intro L S H x hx; unfold a_new at hx; (repeat' split at hx) <;> first | (cases hx; rfl) | cases hx), fun L S H x hx => ?_, ?_⟩
  · unfold a_new at hx
    split at hx
    · cases hx; exact ⟨Nat.le_succ _, Nat.le_add_right _ _⟩
    · cases hx
  · intro D cy z st sl sx n0 s0 p l e R s m args below meth c Q C L S H x hx h1 h2 h3 h4 k
    unfold a_new at hx
    split at hx
    · rename_i hb
      cases hx
      dsimp only at h3 h4 k
      intro Hp locs ls hs hS hl
      have hKn := C.2.2.2.2.2.1.1.1 ci _ hc
      refine W.newcK C.1 C.2.1 C.2.2.2.1 (C.2.2.2.2.1 _ hm1) (C.2.2.2.2.1 _ hm2) (C.2.2.2.2.1 _ hm3) (g := F0 m pc ls (S.map (cv z st))) rfl d (by omega) (by omega) hKn.2.1 rfl (fun H1 kC hkC e1 hz1 ho => ?_)
      have e2 : va_at D cls (z + H.1, cvE z st cy (.inr (ci, fs))) H1 := by
        show va_at D cls (z + H.1, .inr (ci, fs.map (cv z st))) H1
        rw [hcv, ← hs.1]
        exact ⟨_, hc, (u_born ty0 C.2.2.2.2.1 hin hKn hkC e1 hty).to hfs⟩
      have kk := k H1 locs ls (hs.push (n := N) hb e2 trivial hz1 ho) (vaS_push hS hz1 ho) hl
      rw [List.map_cons, cv_ref hs.2.1, ← hs.1, show H.1 + 1 - n0 = H.1 - n0 + 1 by omega, show H.2.1 + N - s0 = H.2.1 - s0 + N by omega] at kk
      exact kk
    · cases hx
def a_gets (j nx : Nat) : aF := fun L S H => some (nx, L, .ref (aBig + j) :: S, H)
theorem s_gets {own host : String} {i j : Nat} (hj : j < 9) (hm : Cond.fieldLinkNest own i "StatePress" (sNm j) "[I" host ∈ NW) {cc : ByteArray} {nL : Nat} {nm : String} {pc : Nat} (d : decode cc pc = .ok (.getstatic i, 3)) : Okf cc nL own nm pc (a_gets j (pc + 3)) := by
  refine ⟨lm_in (by intro L L2 S H; unfold a_gets; (repeat' split) <;> first | rfl | simp_all) (by intro L S H x hx; unfold a_gets at hx; (repeat' split at hx) <;> first | (cases hx; rfl) | cases hx), fun L S H x hx => by cases hx; exact ⟨Nat.le_refl _, Nat.le_refl _⟩, ?_⟩
  intro D cy z st sl sx n0 s0 p l e R s m args below meth c Q C L S H x hx h1 h2 h3 h4 k
  cases hx
  intro Hp locs ls hs hS hl
  have kk := k Hp locs ls hs hS hl
  dsimp only at kk
  rw [List.map_cons, cv_sref] at kk
  exact va_getsN C.1 C.2.1 (C.2.2.2.2.2.1.2.2.1 j hj) hS C.2.2.2.1 (va_Nw.use rfl (C.2.2.2.2.2.1.2.2.2 _ hm)) (fun _ h => h) d kk
def a_copy (t nx : Nat) : aF := fun L S H => match S with
  | .int n :: .int dp :: .ref b :: .int sp :: .ref a :: S => (match H.2.2 a, H.2.2 b with
    | .inl (ta, n0, .inl f), .inl (tb, n1, .inl g) => if (S.map Value.category).sum ≤ 8 ∧ (a < H.1 ∨ aBig ≤ a ∧ a < aBig + 10) ∧ ta = t ∧ b < H.1 ∧ tb = t ∧ ¬ sp < 0 ∧ ¬ dp < 0 ∧ ¬ n < 0 ∧ sp.toNatClampNeg + n.toNatClampNeg ≤ n0 ∧ dp.toNatClampNeg + n.toNatClampNeg ≤ n1 then some (nx, L, S, H.1, H.2.1, va_up H.2.2 b (.inl (t, n1, .inl (va_cpy f g sp.toNatClampNeg dp.toNatClampNeg n.toNatClampNeg)))) else none
    | _, _ => none)
  | _ => none
theorem sum_cv {z : Nat} {st : Nat → Nat} (S : List Value) : ((S.map (cv z st)).map fun v => v.category).sum = (S.map Value.category).sum := by
  rw [List.map_map]
  congr 1
  apply List.map_congr_left
  intro v _
  exact cv_cat z st v
theorem s_copy {t : Nat} {ty : FieldType} (htt : ∀ cy : Nat → ClassId, (tysOf cy)[t]? = some (cy t, ty)) (hpr : refKind ty = false) (h01 : t = 0 ∧ ty = .byte ∨ t = 1 ∧ ty = .int) {own : String} {i : Nat} (hm1 : Cond.methodLink own i arraycopyName ∈ TBg) (hm2 : Cond.native arraycopyName ∈ TBg) (hm3 : Cond.static arraycopyName ∈ TBg) (hm4 : Cond.initialized "java/lang/System" ∈ TBg) {cc : ByteArray} {nL : Nat} {nm : String} {pc : Nat} (d : decode cc pc = .ok (.invokestatic i, 3)) : Okf cc nL own nm pc (a_copy t (pc + 3)) := by
  refine ⟨lm_in (by intro L L2 S H; unfold a_copy; (repeat' split) <;> first | rfl | simp_all) (by intro L S H x hx; unfold a_copy at hx; (repeat' split at hx) <;> first | (cases hx; rfl) | cases hx), fun L S H x hx => ?_, ?_⟩
  · unfold a_copy at hx
    split at hx
    · split at hx
      · split at hx
        · cases hx; exact ⟨Nat.le_refl _, Nat.le_refl _⟩
        · cases hx
      · cases hx
    · cases hx
  · intro D cy z st sl sx n0 s0 p l e R s m args below meth c Q C L S H x hx h1 h2 h3 h4 k
    unfold a_copy at hx
    split at hx
    · rename_i n dp b sp a S1
      split at hx
      · rename_i ta na f tb nb g hea heb
        split at hx
        · rename_i hc
          obtain ⟨hst, ha, rfl, hb, htb, g1, g2, g3, g4, g5⟩ := hc
          subst htb
          cases hx
          intro Hp locs ls hs hS hl
          have hPb := (hs.2.2.1 b hb).1
          have hFb := (hs.2.2.1 b hb).2
          rw [heb] at hPb hFb
          show W p l e R s m args below meth c Hp locs _ _ Q (F0 m pc ls (.int n :: .int dp :: cv z st (.ref b) :: .int sp :: cv z st (.ref a) :: S1.map (cv z st)))
          rw [cv_ref (Nat.lt_trans hb hs.2.1)]
          have src : ∃ (a0 : Nat) (cs : Cell), cv z st (.ref a) = .ref a0 ∧ Hp[a0]? = some cs ∧ s.isArrayOf cs ty ∧ cs.vm ≠ .unknown ∧ na ≤ cs.slots.size ∧ (∀ j, j < na → cs.slots[j]? = some (.int (f j))) ∧ (∀ j, fits ty (.int (f j)) = true) := by
            rcases ha with ha | ⟨ha, hb2⟩
            · have hPa := (hs.2.2.1 a ha).1
              have hFa := (hs.2.2.1 a ha).2
              rw [hea] at hPa hFa
              refine ⟨z + a, _, cv_ref (Nat.lt_trans ha hs.2.1), hPa, (C.2.2.2.2.2.1.1.2 tb _ (htt cy)).1 na _, fun q => (by cases q), Nat.le_of_eq (arrV_size _ _ _).symm, fun j hj => arrV_read _ _ hj, fun j => ?_⟩
              rcases h01 with ⟨rfl, rfl⟩ | ⟨rfl, rfl⟩
              · exact hFa rfl j
              · rfl
            · obtain ⟨j, rfl⟩ : ∃ j, a = aBig + j := ⟨a - aBig, (Nat.add_sub_cancel' ha).symm⟩
              have hj : j < 10 := Nat.lt_of_add_lt_add_left hb2
              have e1 := (hs.2.2.2 j hj).symm.trans hea
              cases e1
              obtain ⟨cell, e1, e2, e3, e4, e5, e6, e7⟩ := C.2.2.2.2.2.1.2.1 j hj
              rcases h01 with ⟨h, -⟩ | ⟨-, rfl⟩
              · cases h
              · refine ⟨st j, cell, cv_sref j, ?_, e2, e3, e4, e6, fun _ => rfl⟩
                rw [hS.2.1 _ (Array.getElem?_eq_some_iff.mp e1).1 e7]
                exact e1
          obtain ⟨a0, cs, ea, hc0, hA0, hu0, hz0, hv0, hf0⟩ := src
          rw [ea]
          refine vcopyK C.1 C.2.1 (by rw [C.2.2.1]; exact hl.1.symm) C.2.2.2.1 (C.2.2.2.2.1 _ hm1) (C.2.2.2.2.1 _ hm2) (C.2.2.2.2.1 _ hm3) (C.2.2.2.2.1 _ hm4) hc0 hA0 hu0 hz0 hv0 hPb (C.2.2.2.2.2.1.1.2 tb _ (htt cy)).1 hpr g1 g2 g3 g4 g5 (fun i _ => hf0 _) C.2.2.2.2.2.2.2.2.2.1 (by rw [sum_cv]; have := C.2.2.2.2.2.2.2.2.2.2; show _ + (7 + 11) ≤ _; omega) d (fun H1 L1 e1 hz ho hL => ?_)
          refine k H1 _ ls (hs.up hb (e := .inl (tb, nb, .inl (va_cpy f g sp.toNatClampNeg dp.toNatClampNeg n.toNatClampNeg))) e1 ?_ hz ho) ?_ hl
          · intro h0
            rcases h01 with ⟨-, rfl⟩ | ⟨h, -⟩
            · exact sb_fitC hf0 (hFb h0)
            · rw [h] at h0; cases h0
          · refine ⟨by rw [hz]; exact hS.1, fun q q1 q2 => ?_, fun q hq => ?_⟩
            · rw [ho q (fun e => q2 (by rw [e]; exact Nat.le_add_right _ _))]
              exact hS.2.1 q q1 q2
            · rcases List.mem_append.mp hq with h | h
              · exact hS.2.2 q h
              · rw [hL q h]; exact Nat.le_add_right _ _
        · cases hx
      · cases hx
    · cases hx
def a_m2 (op : Int32 → Int32 → Int32) (nx : Nat) : aF := fun L S H => match S with
  | .int y :: .int x :: S => if (S.map Value.category).sum ≤ 8 then some (nx, L, .int (op x y) :: S, H) else none
  | _ => none
theorem s_mmax {own : String} {i : Nat} (hm1 : Cond.methodLink own i Lib.Math.max.name ∈ TBg) (hm2 : Cond.static Lib.Math.max.name ∈ TBg) (hm3 : Cond.initialized "java/lang/Math" ∈ TBg) (hm4 : Cond.code Lib.Math.max.name Lib.Math.max.code 2 (some .int) ∈ TBg) {cc : ByteArray} {nL : Nat} {nm : String} {pc : Nat} (d : decode cc pc = .ok (.invokestatic i, 3)) : Okf cc nL own nm pc (a_m2 (fun x y => if x < y then y else x) (pc + 3)) := by
  refine ⟨lm_in (by intro L L2 S H; unfold a_m2; (repeat' split) <;> first | rfl | simp_all) (by intro L S H x hx; unfold a_m2 at hx; (repeat' split at hx) <;> first | (cases hx; rfl) | cases hx), fun L S H x hx => ?_, ?_⟩
  · unfold a_m2 at hx
    split at hx
    · split at hx
      · cases hx; exact ⟨Nat.le_refl _, Nat.le_refl _⟩
      · cases hx
    · cases hx
  · intro D cy z st sl sx n0 s0 p l e R s m args below meth c Q C L S H x hx h1 h2 h3 h4 k
    unfold a_m2 at hx
    split at hx
    · split at hx
      · rename_i hc
        cases hx
        intro Hp locs ls hs hS hl
        dsimp only at h3 h4
        exact va_mmax C.1 C.2.1 (by rw [C.2.2.1]; exact hl.1.symm) C.2.2.2.1 (C.2.2.2.2.1 _ hm1) (C.2.2.2.2.1 _ hm2) (C.2.2.2.2.1 _ hm3) (C.2.2.2.2.1 _ hm4) C.2.2.2.2.2.2.2.2.2.1 (by rw [sum_cv]; have := C.2.2.2.2.2.2.2.2.2.2; omega) (by omega) (by omega) d (k Hp locs ls hs hS hl)
      · cases hx
    · cases hx
theorem s_mmin {own : String} {i : Nat} (hm1 : Cond.methodLink own i Lib.Math.min.name ∈ TBg) (hm2 : Cond.static Lib.Math.min.name ∈ TBg) (hm3 : Cond.initialized "java/lang/Math" ∈ TBg) (hm4 : Cond.code Lib.Math.min.name Lib.Math.min.code 2 (some .int) ∈ TBg) {cc : ByteArray} {nL : Nat} {nm : String} {pc : Nat} (d : decode cc pc = .ok (.invokestatic i, 3)) : Okf cc nL own nm pc (a_m2 (fun x y => if y < x then y else x) (pc + 3)) := by
  refine ⟨lm_in (by intro L L2 S H; unfold a_m2; (repeat' split) <;> first | rfl | simp_all) (by intro L S H x hx; unfold a_m2 at hx; (repeat' split at hx) <;> first | (cases hx; rfl) | cases hx), fun L S H x hx => ?_, ?_⟩
  · unfold a_m2 at hx
    split at hx
    · split at hx
      · cases hx; exact ⟨Nat.le_refl _, Nat.le_refl _⟩
      · cases hx
    · cases hx
  · intro D cy z st sl sx n0 s0 p l e R s m args below meth c Q C L S H x hx h1 h2 h3 h4 k
    unfold a_m2 at hx
    split at hx
    · split at hx
      · rename_i hc
        cases hx
        intro Hp locs ls hs hS hl
        dsimp only at h3 h4
        exact va_mmin C.1 C.2.1 (by rw [C.2.2.1]; exact hl.1.symm) C.2.2.2.1 (C.2.2.2.2.1 _ hm1) (C.2.2.2.2.1 _ hm2) (C.2.2.2.2.1 _ hm3) (C.2.2.2.2.1 _ hm4) C.2.2.2.2.2.2.2.2.2.1 (by rw [sum_cv]; have := C.2.2.2.2.2.2.2.2.2.2; omega) (by omega) (by omega) d (k Hp locs ls hs hS hl)
      · cases hx
    · cases hx
def a_m1 (op : Int32 → Int32) (nx : Nat) : aF := fun L S H => match S with
  | .int x :: S => if (S.map Value.category).sum ≤ 8 then some (nx, L, .int (op x) :: S, H) else none
  | _ => none
theorem s_mabs {own : String} {i : Nat} (hm1 : Cond.methodLink own i Lib.Math.abs.name ∈ TBg) (hm2 : Cond.static Lib.Math.abs.name ∈ TBg) (hm3 : Cond.initialized "java/lang/Math" ∈ TBg) (hm4 : Cond.code Lib.Math.abs.name Lib.Math.abs.code 1 (some .int) ∈ TBg) {cc : ByteArray} {nL : Nat} {nm : String} {pc : Nat} (d : decode cc pc = .ok (.invokestatic i, 3)) : Okf cc nL own nm pc (a_m1 (fun x => if 0 ≤ x then x else 0 - x) (pc + 3)) := by
  refine ⟨lm_in (by intro L L2 S H; unfold a_m1; (repeat' split) <;> first | rfl | simp_all) (by intro L S H x hx; unfold a_m1 at hx; (repeat' split at hx) <;> first | (cases hx; rfl) | cases hx), fun L S H x hx => ?_, ?_⟩
  · unfold a_m1 at hx
    split at hx
    · split at hx
      · cases hx; exact ⟨Nat.le_refl _, Nat.le_refl _⟩
      · cases hx
    · cases hx
  · intro D cy z st sl sx n0 s0 p l e R s m args below meth c Q C L S H x hx h1 h2 h3 h4 k
    unfold a_m1 at hx
    split at hx
    · split at hx
      · rename_i hc
        cases hx
        intro Hp locs ls hs hS hl
        dsimp only at h3 h4
        exact va_mabs C.1 C.2.1 (by rw [C.2.2.1]; exact hl.1.symm) C.2.2.2.1 (C.2.2.2.2.1 _ hm1) (C.2.2.2.2.1 _ hm2) (C.2.2.2.2.1 _ hm3) (C.2.2.2.2.1 _ hm4) C.2.2.2.2.2.2.2.2.2.1 (by rw [sum_cv]; have := C.2.2.2.2.2.2.2.2.2.2; omega) (by omega) (by omega) d (k Hp locs ls hs hS hl)
      · cases hx
    · cases hx
def a_oi (nx : Nat) : aF := fun L S H => match S with
  | .ref _ :: S => if (S.map Value.category).sum ≤ 8 then some (nx, L, S, H) else none
  | _ => none
theorem s_oi {own : String} {i : Nat} (hm1 : Cond.methodLink own i Lib.objectInit ∈ TBg) (hm2 : Cond.instanceMethod Lib.objectInit ∈ TBg) (hm3 : Cond.code Lib.objectInit ⟨#[0xb1]⟩ 1 none ∈ TBg) {cc : ByteArray} {nL : Nat} {nm : String} {pc : Nat} (d : decode cc pc = .ok (.invokespecial i, 3)) : Okf cc nL own nm pc (a_oi (pc + 3)) := by
  refine ⟨lm_in (by intro L L2 S H; unfold a_oi; (repeat' split) <;> first | rfl | simp_all) (by intro L S H x hx; unfold a_oi at hx; (repeat' split at hx) <;> first | (cases hx; rfl) | cases hx), fun L S H x hx => ?_, ?_⟩
  · unfold a_oi at hx
    split at hx
    · split at hx
      · cases hx; exact ⟨Nat.le_refl _, Nat.le_refl _⟩
      · cases hx
    · cases hx
  · intro D cy z st sl sx n0 s0 p l e R s m args below meth c Q C L S H x hx h1 h2 h3 h4 k
    unfold a_oi at hx
    split at hx
    · rename_i a S1
      split at hx
      · rename_i hc
        cases hx
        intro Hp locs ls hs hS hl
        refine W.objInit C.1 C.2.1 C.2.2.2.1 (C.2.2.2.2.1 _ hm1) (C.2.2.2.2.1 _ hm2) (C.2.2.2.2.1 _ hm3) (g := F0 m pc ls (cv z st (.ref a) :: S1.map (cv z st))) rfl (by rw [C.2.2.1]; exact hl.1) rfl d C.2.2.2.2.2.2.2.2.2.1 ?_ (k Hp locs ls hs hS hl)
        show 2 * 0 + _ + 12 ≤ _
        rw [sum_cv]
        have := C.2.2.2.2.2.2.2.2.2.2
        omega
      · cases hx
    · cases hx
