/-! THE ABSTRACT MACHINE: values with cell numbers for addresses; a method's code as a table of steps; what runs there runs on the machine -/
abbrev aE : Type := va_E
abbrev aH : Type := Nat × Nat × (Nat → aE)
abbrev aL : Type := List (Nat × Value)
abbrev aS : Type := Nat × aL × List Value × aH
abbrev aF : Type := aL → List Value → aH → Option aS
abbrev aI : Type := aF ⊕ ((Nat × Nat × Nat) ⊕ Nat)
abbrev aT : Type := Nat → Option aI
abbrev aO : Type := Nat → List Value → aH → Option Value → aH → Prop
/-- cell numbers from here on are the arrays that were there before -/
abbrev aBig : Nat := 1000000
def cva (z : Nat) (st : Nat → Nat) (k : Nat) : Nat := if k < aBig then z + k else st (k - aBig)
def cv (z : Nat) (st : Nat → Nat) : Value → Value
  | .ref k => .ref (cva z st k)
  | v => v
def cvL (z : Nat) (st : Nat → Nat) (L : aL) : List (Nat × Value) := L.map (fun q => (q.1, cv z st q.2))
def cvE (z : Nat) (st : Nat → Nat) (cy : Nat → ClassId) : aE → va_E
  | .inl a => .inl (cy a.1, a.2)
  | .inr o => .inr (o.1, o.2.map (cv z st))
def lget : aL → Nat → Option Value
  | [], _ => none
  | (j, v) :: t, i => if j = i then some v else lget t i
/-- locals stand in the order of their places -/
def lins : aL → Nat → Value → aL
  | [], i, v => [(i, v)]
  | (j, w) :: t, i, v => if i < j then (i, v) :: (j, w) :: t else (j, w) :: lins t i v
def lset1 (L : aL) (i : Nat) (v : Value) : aL := lins (L.filter (fun q => !(q.1 == i) && !(q.1 + 1 == i && q.2.category == 2))) i v
def lset2 (L : aL) (i : Nat) (v : Value) : aL := lins (L.filter (fun q => !(q.1 == i) && (!(q.1 == i + 1) && !(q.1 + 1 == i && q.2.category == 2)))) i v
theorem lins_mem {i : Nat} {v : Value} : ∀ {L : aL} {q : Nat × Value}, q ∈ lins L i v → q = (i, v) ∨ q ∈ L
  | [], q, h => Or.inl (List.mem_singleton.mp h)
  | (j, w) :: t, q, h => by
    unfold lins at h
    split at h
    · rcases List.mem_cons.mp h with h | h
      · exact Or.inl h
      · exact Or.inr h
    · rcases List.mem_cons.mp h with h | h
      · exact Or.inr (by rw [h]; exact List.mem_cons_self)
      · rcases lins_mem h with h | h
        · exact Or.inl h
        · exact Or.inr (List.mem_cons_of_mem _ h)
/-- the receiver is an object of class c - 1 (c is 0 where there is none) -/
def rcv (c : Nat) (args : List Value) (H : aH) : Bool := match c, args with
  | 0, _ => true
  | c + 1, .ref a :: _ => decide (a < H.1) && (match H.2.2 a with
    | .inr o => o.1 == c
    | .inl _ => false)
  | _, _ => false
def aX (tb : aT) (o : aO) : Nat → Nat → aL → List Value → aH → Option Value → aH → Prop
  | 0, _, _, _, _, _, _ => False
  | n + 1, pc, L, S, H, r, H' => match tb pc with
    | none => False
    | some (.inl f) => match f L S H with
      | none => False
      | some x => aX tb o n x.1 x.2.1 x.2.2.1 x.2.2.2 r H'
    | some (.inr (.inl yk)) => yk.2.1 ≤ S.length ∧ ((S.drop yk.2.1).map Value.category).sum ≤ 8 ∧ rcv yk.2.2 (S.take yk.2.1).reverse H = true ∧ ∃ r1 H1, o yk.1 (S.take yk.2.1).reverse H r1 H1 ∧ aX tb o n (pc + 3) L (r1.toList ++ S.drop yk.2.1) H1 r H'
    | some (.inr (.inr k)) => (if k = 0 then S = [] ∧ r = none else ∃ v, S = [v] ∧ r = some v ∧ (k = 1 → ∃ x, v = .int x) ∧ (k = 2 → ∃ x, v = .long x) ∧ (k = 3 → v = .int 0 ∨ v = .int 1)) ∧ H' = H
def aM (mt : Nat → aT) (ml : Nat → Nat) : Nat → aO
  | 0 => fun _ _ _ _ _ => False
  | d + 1 => fun y args H r H' => (args.map Value.category).sum ≤ ml y ∧ ∃ n, aX (mt y) (aM mt ml d) n 0 (lv_args 0 args) [] H r H'
theorem lget_mem : ∀ {L : aL} {i : Nat} {v : Value}, lget L i = some v → (i, v) ∈ L
  | (j, w) :: t, i, v, h => by
    unfold lget at h
    by_cases hj : j = i
    · rw [if_pos hj] at h
      cases h
      subst hj
      exact List.mem_cons_self
    · rw [if_neg hj] at h
      exact List.mem_cons_of_mem _ (lget_mem h)
theorem cv_cat (z : Nat) (st : Nat → Nat) (v : Value) : (cv z st v).category = v.category := by cases v <;> rfl
theorem cvL_set1 (z : Nat) (st : Nat → Nat) (L : aL) (i : Nat) (v : Value) : ∀ q ∈ cvL z st (lset1 L i v), q ∈ (i, cv z st v) :: (cvL z st L).filter (fun q => !(q.1 == i) && !(q.1 + 1 == i && q.2.category == 2)) := by
  intro q hq
  obtain ⟨p, hp, rfl⟩ := List.mem_map.mp hq
  rcases lins_mem hp with rfl | hp
  · exact List.mem_cons_self
  · refine List.mem_cons_of_mem _ ?_
    obtain ⟨h1, h2⟩ := List.mem_filter.mp hp
    refine List.mem_filter.mpr ⟨List.mem_map.mpr ⟨p, h1, rfl⟩, ?_⟩
    show (!(p.1 == i) && !(p.1 + 1 == i && (cv z st p.2).category == 2)) = true
    rw [cv_cat]
    exact h2
theorem cvL_set2 (z : Nat) (st : Nat → Nat) (L : aL) (i : Nat) (v : Value) : ∀ q ∈ cvL z st (lset2 L i v), q ∈ (i, cv z st v) :: (cvL z st L).filter (fun q => !(q.1 == i) && (!(q.1 == i + 1) && !(q.1 + 1 == i && q.2.category == 2))) := by
  intro q hq
  obtain ⟨p, hp, rfl⟩ := List.mem_map.mp hq
  rcases lins_mem hp with rfl | hp
  · exact List.mem_cons_self
  · refine List.mem_cons_of_mem _ ?_
    obtain ⟨h1, h2⟩ := List.mem_filter.mp hp
    refine List.mem_filter.mpr ⟨List.mem_map.mpr ⟨p, h1, rfl⟩, ?_⟩
    show (!(p.1 == i) && (!(p.1 == i + 1) && !(p.1 + 1 == i && (cv z st p.2).category == 2))) = true
    rw [cv_cat]
    exact h2
theorem lv_mem {ls : Array Slot} {nL : Nat} {l l' : List (Nat × Value)} (h : lv_has ls nL l) (hm : ∀ q ∈ l', q ∈ l) : lv_has ls nL l' := ⟨h.1, h.2.1, fun q hq => h.2.2 q (hm q hq)⟩
theorem cvL_args (z : Nat) (st : Nat → Nat) : ∀ (i : Nat) (vs : List Value), lv_args i (vs.map (cv z st)) = cvL z st (lv_args i vs)
  | _, [] => rfl
  | i, v :: vs => by
    show (i, cv z st v) :: lv_args (if (cv z st v).category = 2 then i + 2 else i + 1) (vs.map (cv z st)) = _
    rw [cvL_args z st, cv_cat]
    rfl
/-! more locals do no harm -/
def keysNd (L : aL) : Prop := (L.map Prod.fst).Nodup
theorem lget_of_mem : ∀ {L : aL} {i : Nat} {v : Value}, keysNd L → (i, v) ∈ L → lget L i = some v
  | (j, w) :: t, i, v, hn, hm => by
    unfold lget
    have hn2 := List.nodup_cons.mp hn
    rcases List.mem_cons.mp hm with h | h
    · cases h
      rw [if_pos rfl]
    · have hj : j ≠ i := fun e => hn2.1 (by rw [e]; exact List.mem_map.mpr ⟨(i, v), h, rfl⟩)
      rw [if_neg hj]
      exact lget_of_mem hn2.2 h
theorem mem_lins {i : Nat} {v : Value} : ∀ {L : aL} {q : Nat × Value}, q = (i, v) ∨ q ∈ L → q ∈ lins L i v
  | [], q, h => by
    rcases h with h | h
    · rw [h]; exact List.mem_singleton.mpr rfl
    · cases h
  | (j, w) :: t, q, h => by
    unfold lins
    split
    · rcases h with h | h
      · rw [h]; exact List.mem_cons_self
      · exact List.mem_cons_of_mem _ h
    · rcases h with h | h
      · exact List.mem_cons_of_mem _ (mem_lins (Or.inl h))
      · rcases List.mem_cons.mp h with h | h
        · rw [h]; exact List.mem_cons_self
        · exact List.mem_cons_of_mem _ (mem_lins (Or.inr h))
theorem lins_nd {i : Nat} {v : Value} : ∀ {L : aL}, keysNd L → (∀ q ∈ L, q.1 ≠ i) → keysNd (lins L i v)
  | [], _, _ => List.nodup_cons.mpr ⟨List.not_mem_nil, List.nodup_nil⟩
  | (j, w) :: t, hn, hi => by
    have hn2 := List.nodup_cons.mp hn
    unfold lins
    split
    · refine List.nodup_cons.mpr ⟨fun hm => ?_, hn⟩
      obtain ⟨q, h1, h2⟩ := List.mem_map.mp hm
      exact hi q h1 h2
    · refine List.nodup_cons.mpr ⟨fun hm => ?_, lins_nd hn2.2 (fun q hq => hi q (List.mem_cons_of_mem _ hq))⟩
      obtain ⟨q, h1, h2⟩ := List.mem_map.mp hm
      rcases lins_mem h1 with h | h
      · rw [h] at h2
        exact hi (j, w) List.mem_cons_self h2.symm
      · exact hn2.1 (List.mem_map.mpr ⟨q, h, h2⟩)
theorem filter_nd {L : aL} {p : Nat × Value → Bool} (h : keysNd L) : keysNd (L.filter p) := List.Nodup.sublist (List.Sublist.map _ List.filter_sublist) h
theorem lset1_sub {L L' : aL} {i : Nat} {v : Value} (hn : keysNd L') (hs : ∀ q ∈ L, q ∈ L') : (∀ q ∈ lset1 L i v, q ∈ lset1 L' i v) ∧ keysNd (lset1 L' i v) := by
  refine ⟨fun q hq => ?_, lins_nd (filter_nd hn) (fun q hq e => ?_)⟩
  · rcases lins_mem hq with h | h
    · exact mem_lins (Or.inl h)
    · obtain ⟨h1, h2⟩ := List.mem_filter.mp h
      exact mem_lins (Or.inr (List.mem_filter.mpr ⟨hs q h1, h2⟩))
  · have h2 := (List.mem_filter.mp hq).2
    rw [e] at h2
    simp at h2
theorem lset2_sub {L L' : aL} {i : Nat} {v : Value} (hn : keysNd L') (hs : ∀ q ∈ L, q ∈ L') : (∀ q ∈ lset2 L i v, q ∈ lset2 L' i v) ∧ keysNd (lset2 L' i v) := by
  refine ⟨fun q hq => ?_, lins_nd (filter_nd hn) (fun q hq e => ?_)⟩
  · rcases lins_mem hq with h | h
    · exact mem_lins (Or.inl h)
    · obtain ⟨h1, h2⟩ := List.mem_filter.mp h
      exact mem_lins (Or.inr (List.mem_filter.mpr ⟨hs q h1, h2⟩))
  · have h2 := (List.mem_filter.mp hq).2
    rw [e] at h2
    simp at h2
def LMono (f : aF) : Prop := ∀ (L L' : aL) (S : List Value) (H : aH) (x : aS), keysNd L' → (∀ q ∈ L, q ∈ L') → f L S H = some x → ∃ L1, f L' S H = some (x.1, L1, x.2.2) ∧ (∀ q ∈ x.2.1, q ∈ L1) ∧ keysNd L1
theorem lm_in {f : aF} (h : ∀ L L' S H, f L' S H = (f L S H).map (fun x => (x.1, L', x.2.2))) (h2 : ∀ L S H x, f L S H = some x → x.2.1 = L) : LMono f := by
  intro L L' S H x hn hs hx
  refine ⟨L', ?_, by rw [h2 L S H x hx]; exact hs, hn⟩
  rw [h L L', hx]
  rfl
