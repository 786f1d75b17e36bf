/-! THE ABSTRACT MACHINE: values with cell numbers for addresses; a method's code as a table of steps; what runs there runs on the machine -/
abbrev aE : Type := va_E
abbrev aH : Type := Nat × Nat × (Nat → aE)
abbrev aL : Type := List (Nat × Value)
abbrev aS : Type := Nat × aL × List Value × aH
abbrev aF : Type := aL → List Value → aH → Option aS
abbrev aI : Type := aF ⊕ ((Nat × Nat × Nat) ⊕ Nat)
abbrev aT : Type := Nat → Option aI
abbrev aO : Type := Nat → List Value → aH → Option Value → aH → Prop
/-- cell numbers from here on are the arrays that were there before -/
abbrev aBig : Nat := 1000000
def cva (z : Nat) (st : Nat → Nat) (k : Nat) : Nat := if k < aBig then z + k else st (k - aBig)
def cv (z : Nat) (st : Nat → Nat) : Value → Value
  | .ref k => .ref (cva z st k)
  | v => v
def cvL (z : Nat) (st : Nat → Nat) (L : aL) : List (Nat × Value) := L.map (fun q => (q.1, cv z st q.2))
def cvE (z : Nat) (st : Nat → Nat) (cy : Nat → ClassId) : aE → va_E
  | .inl a => .inl (cy a.1, a.2)
  | .inr o => .inr (o.1, o.2.map (cv z st))
def lget : aL → Nat → Option Value
  | [], _ => none
  | (j, v) :: t, i => if j = i then some v else lget t i
def lset1 (L : aL) (i : Nat) (v : Value) : aL := (i, v) :: L.filter (fun q => !(q.1 == i) && !(q.1 + 1 == i && q.2.category == 2))
def lset2 (L : aL) (i : Nat) (v : Value) : aL := (i, v) :: L.filter (fun q => !(q.1 == i) && (!(q.1 == i + 1) && !(q.1 + 1 == i && q.2.category == 2)))
/-- the receiver is an object of class c - 1 (c is 0 where there is none) -/
def rcv (c : Nat) (args : List Value) (H : aH) : Bool := match c, args with
  | 0, _ => true
  | c + 1, .ref a :: _ => decide (a < H.1) && (match H.2.2 a with
    | .inr o => o.1 == c
    | .inl _ => false)
  | _, _ => false
def aX (tb : aT) (o : aO) : Nat → Nat → aL → List Value → aH → Option Value → aH → Prop
  | 0, _, _, _, _, _, _ => False
  | n + 1, pc, L, S, H, r, H' => match tb pc with
    | none => False
    | some (.inl f) => match f L S H with
      | none => False
      | some x => aX tb o n x.1 x.2.1 x.2.2.1 x.2.2.2 r H'
    | some (.inr (.inl yk)) => yk.2.1 ≤ S.length ∧ ((S.drop yk.2.1).map Value.category).sum ≤ 8 ∧ rcv yk.2.2 (S.take yk.2.1).reverse H = true ∧ ∃ r1 H1, o yk.1 (S.take yk.2.1).reverse H r1 H1 ∧ aX tb o n (pc + 3) L (r1.toList ++ S.drop yk.2.1) H1 r H'
    | some (.inr (.inr k)) => (if k = 0 then S = [] ∧ r = none else ∃ v, S = [v] ∧ r = some v ∧ (k = 1 → ∃ x, v = .int x) ∧ (k = 2 → ∃ x, v = .long x) ∧ (k = 3 → v = .int 0 ∨ v = .int 1)) ∧ H' = H
def aM (mt : Nat → aT) (ml : Nat → Nat) : Nat → aO
  | 0 => fun _ _ _ _ _ => False
  | d + 1 => fun y args H r H' => (args.map Value.category).sum ≤ ml y ∧ ∃ n, aX (mt y) (aM mt ml d) n 0 (lv_args 0 args) [] H r H'
theorem lget_mem : ∀ {L : aL} {i : Nat} {v : Value}, lget L i = some v → (i, v) ∈ L
  | (j, w) :: t, i, v, h => by
    unfold lget at h
    by_cases hj : j = i
    · rw [if_pos hj] at h
      cases h
      subst hj
      exact List.mem_cons_self
    · rw [if_neg hj] at h
      exact List.mem_cons_of_mem _ (lget_mem h)
theorem cv_cat (z : Nat) (st : Nat → Nat) (v : Value) : (cv z st v).category = v.category := by cases v <;> rfl
theorem cvL_set1 (z : Nat) (st : Nat → Nat) (L : aL) (i : Nat) (v : Value) : (i, cv z st v) :: (cvL z st L).filter (fun q => !(q.1 == i) && !(q.1 + 1 == i && q.2.category == 2)) = cvL z st (lset1 L i v) := by
  unfold cvL lset1
  rw [List.map_cons, List.filter_map]
  congr 2
  apply List.filter_congr
  intro q _
  simp [cv_cat]
theorem cvL_set2 (z : Nat) (st : Nat → Nat) (L : aL) (i : Nat) (v : Value) : (i, cv z st v) :: (cvL z st L).filter (fun q => !(q.1 == i) && (!(q.1 == i + 1) && !(q.1 + 1 == i && q.2.category == 2))) = cvL z st (lset2 L i v) := by
  unfold cvL lset2
  rw [List.map_cons, List.filter_map]
  congr 2
  apply List.filter_congr
  intro q _
  simp [cv_cat]
theorem cvL_args (z : Nat) (st : Nat → Nat) : ∀ (i : Nat) (vs : List Value), lv_args i (vs.map (cv z st)) = cvL z st (lv_args i vs)
  | _, [] => rfl
  | i, v :: vs => by
    show (i, cv z st v) :: lv_args (if (cv z st v).category = 2 then i + 2 else i + 1) (vs.map (cv z st)) = _
    rw [cvL_args z st, cv_cat]
    rfl
