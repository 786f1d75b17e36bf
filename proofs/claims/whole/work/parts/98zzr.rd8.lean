/-! a formed dictionary read: the class -/
def dIs (l : List Nat) (a i : Nat) : Nat := wdN l (a + 4 * i) 4
def dOk (l : List Nat) (a i : Nat) : Prop := dIs l a i ≠ 0 ∧ dIs l a i ≤ (l).length - (a + 12)
abbrev Rd3 : Type := Nat × (Nat → Nat) × Nat
def rdE (y : Rd3) : Nat := (y.2.2 + 7) / 8
def mkT (l : List Nat) (x : Le) (y1 y2 y3 : Rd3) : PkS := (some x, some (y1.1, y1.2.1), some (y2.1, y2.2.1), some (y3.1, y3.2.1), (dIs l (rdE y1) 0, dIs l (rdE y1) 1, dIs l (rdE y1) 2), fun _ => 0)
def Rd0 (l : List Nat) (x : Le) (e : Nat) : Prop := 8 ≤ (l).length ∧ rdC l 8 = some (x, e)
def Rd2 (l : List Nat) (x : Le) (e : Nat) (y2 : Rd3) : Prop := Rd0 l x e ∧ rdS l (8 * (l).length) 8 31 (8 * e) = some y2
def Rd3_ (l : List Nat) (x : Le) (e : Nat) (y2 y3 : Rd3) : Prop := Rd2 l x e y2 ∧ rdS l (8 * (l).length) 9 52 (8 * rdE y2) = some y3
def Rd1 (l : List Nat) (x : Le) (e : Nat) (y1 y2 y3 : Rd3) : Prop := Rd3_ l x e y2 y3 ∧ rdS l (8 * (l).length) 9 35 (8 * rdE y3) = some y1
/-- what a formed dictionary says: a fault by its number, or its forms and where its content begins -/
def RdT (l : List Nat) : Nat ⊕ (PkS × Nat) → Prop
  | .inl k => (k = 1 ∧ (l).length < 8) ∨ (k = 2 ∧ 8 ≤ (l).length ∧ rdC l 8 = none) ∨ (k = 3 ∧ ((∃ x e, Rd0 l x e ∧ rdS l (8 * (l).length) 8 31 (8 * e) = none) ∨ (∃ x e y2, Rd2 l x e y2 ∧ rdS l (8 * (l).length) 9 52 (8 * rdE y2) = none) ∨ (∃ x e y2 y3, Rd3_ l x e y2 y3 ∧ rdS l (8 * (l).length) 9 35 (8 * rdE y3) = none))) ∨ (∃ x e y1 y2 y3, Rd1 l x e y1 y2 y3 ∧ ((k = 1 ∧ (l).length < rdE y1 + 12) ∨ (k = 4 ∧ ¬ (l).length < rdE y1 + 12 ∧ ¬ ∀ i, i < 3 → dOk l (rdE y1) i)))
  | .inr z => ∃ x e y1 y2 y3, Rd1 l x e y1 y2 y3 ∧ ¬ (l).length < rdE y1 + 12 ∧ (∀ i, i < 3 → dOk l (rdE y1) i) ∧ z = (mkT l x y1 y2 y3, rdE y1 + 12)
theorem Rd0.uq {l : List Nat} {x x' : Le} {e e' : Nat} (a : Rd0 l x e) (b : Rd0 l x' e') : x = x' ∧ e = e' := by
  have q := Option.some.inj (a.2.symm.trans b.2)
  exact ⟨congrArg Prod.fst q, congrArg Prod.snd q⟩
theorem Rd2.uq {l : List Nat} {x x' : Le} {e e' : Nat} {y y' : Rd3} (a : Rd2 l x e y) (b : Rd2 l x' e' y') : x = x' ∧ e = e' ∧ y = y' := by
  obtain ⟨rfl, rfl⟩ := Rd0.uq a.1 b.1
  exact ⟨rfl, rfl, Option.some.inj (a.2.symm.trans b.2)⟩
theorem Rd3_.uq {l : List Nat} {x x' : Le} {e e' : Nat} {y y' z z' : Rd3} (a : Rd3_ l x e y z) (b : Rd3_ l x' e' y' z') : x = x' ∧ e = e' ∧ y = y' ∧ z = z' := by
  obtain ⟨rfl, rfl, rfl⟩ := Rd2.uq a.1 b.1
  exact ⟨rfl, rfl, rfl, Option.some.inj (a.2.symm.trans b.2)⟩
theorem Rd1.uq {l : List Nat} {x x' : Le} {e e' : Nat} {w w' y y' z z' : Rd3} (a : Rd1 l x e w y z) (b : Rd1 l x' e' w' y' z') : x = x' ∧ w = w' ∧ y = y' ∧ z = z' := by
  obtain ⟨rfl, rfl, rfl, rfl⟩ := Rd3_.uq a.1 b.1
  exact ⟨rfl, Option.some.inj (a.2.symm.trans b.2), rfl, rfl⟩
theorem RdT.uq {l : List Nat} {a b : Nat ⊕ (PkS × Nat)} (ha : RdT l a) (hb : RdT l b) : a = b := by
  have no0 : ∀ {x : Le} {e : Nat}, Rd0 l x e → rdC l 8 = none → False := fun a b => absurd (a.2.symm.trans b) (by simp)
  have no2 : ∀ {x x' : Le} {e e' : Nat} {y : Rd3}, Rd0 l x e → rdS l (8 * (l).length) 8 31 (8 * e) = none → Rd2 l x' e' y → False := fun a b c => by
    obtain ⟨-, rfl⟩ := Rd0.uq a c.1
    exact absurd ((b).symm.trans c.2) (by simp)
  have no3 : ∀ {x x' : Le} {e e' : Nat} {y y' z : Rd3}, Rd2 l x e y → rdS l (8 * (l).length) 9 52 (8 * rdE y) = none → Rd3_ l x' e' y' z → False := fun a b c => by
    obtain ⟨-, -, rfl⟩ := Rd2.uq a c.1
    exact absurd ((b).symm.trans c.2) (by simp)
  have no1 : ∀ {x x' : Le} {e e' : Nat} {y y' z z' w : Rd3}, Rd3_ l x e y z → rdS l (8 * (l).length) 9 35 (8 * rdE z) = none → Rd1 l x' e' w y' z' → False := fun a b c => by
    obtain ⟨-, -, -, rfl⟩ := Rd3_.uq a c.1
    exact absurd ((b).symm.trans c.2) (by simp)
  have n8 : ∀ {x : Le} {e : Nat}, Rd0 l x e → (l).length < 8 → False := fun a b => by have := a.1; omega
  have get : ∀ {c : Nat ⊕ (PkS × Nat)}, RdT l c → (c = .inl 1 ∧ (l).length < 8) ∨ (c = .inl 2 ∧ 8 ≤ (l).length ∧ rdC l 8 = none) ∨ (c = .inl 3 ∧ ((∃ x e, Rd0 l x e ∧ rdS l (8 * (l).length) 8 31 (8 * e) = none) ∨ (∃ x e y2, Rd2 l x e y2 ∧ rdS l (8 * (l).length) 9 52 (8 * rdE y2) = none) ∨ (∃ x e y2 y3, Rd3_ l x e y2 y3 ∧ rdS l (8 * (l).length) 9 35 (8 * rdE y3) = none))) ∨ (∃ x e y1 y2 y3, Rd1 l x e y1 y2 y3 ∧ ((c = .inl 1 ∧ (l).length < rdE y1 + 12) ∨ (c = .inl 4 ∧ ¬ (l).length < rdE y1 + 12 ∧ ¬ ∀ i, i < 3 → dOk l (rdE y1) i) ∨ (¬ (l).length < rdE y1 + 12 ∧ (∀ i, i < 3 → dOk l (rdE y1) i) ∧ c = .inr (mkT l x y1 y2 y3, rdE y1 + 12)))) := by
    intro c hc
    cases c with
    | inl k =>
      rcases hc with ⟨rfl, q⟩ | ⟨rfl, q⟩ | ⟨rfl, q⟩ | ⟨x, e, y1, y2, y3, r, ⟨rfl, q⟩ | ⟨rfl, q⟩⟩
      · exact Or.inl ⟨rfl, q⟩
      · exact Or.inr (Or.inl ⟨rfl, q⟩)
      · exact Or.inr (Or.inr (Or.inl ⟨rfl, q⟩))
      · exact Or.inr (Or.inr (Or.inr ⟨x, e, y1, y2, y3, r, Or.inl ⟨rfl, q⟩⟩))
      · exact Or.inr (Or.inr (Or.inr ⟨x, e, y1, y2, y3, r, Or.inr (Or.inl ⟨rfl, q⟩)⟩))
    | inr z =>
      obtain ⟨x, e, y1, y2, y3, r, q1, q2, rfl⟩ := hc
      exact Or.inr (Or.inr (Or.inr ⟨x, e, y1, y2, y3, r, Or.inr (Or.inr ⟨q1, q2, rfl⟩)⟩))
  have three : ∀ {x : Le} {e : Nat}, ((∃ x e, Rd0 l x e ∧ rdS l (8 * (l).length) 8 31 (8 * e) = none) ∨ (∃ x e y2, Rd2 l x e y2 ∧ rdS l (8 * (l).length) 9 52 (8 * rdE y2) = none) ∨ (∃ x e y2 y3, Rd3_ l x e y2 y3 ∧ rdS l (8 * (l).length) 9 35 (8 * rdE y3) = none)) → (∃ x e, Rd0 l x e) ∧ ∀ {x : Le} {e : Nat} {w y z : Rd3}, Rd1 l x e w y z → False := fun h => by
    rcases h with ⟨x, e, p, q⟩ | ⟨x, e, y, p, q⟩ | ⟨x, e, y, z, p, q⟩
    · exact ⟨⟨x, e, p⟩, fun r => no2 p q r.1.1⟩
    · exact ⟨⟨x, e, p.1⟩, fun r => no3 p q r.1⟩
    · exact ⟨⟨x, e, p.1.1⟩, fun r => no1 p q r⟩
  rcases get ha with ⟨e1, p⟩ | ⟨e1, p⟩ | ⟨e1, p⟩ | ⟨x, e, y1, y2, y3, r, p⟩
  · rcases get hb with ⟨e2, q⟩ | ⟨e2, q⟩ | ⟨e2, q⟩ | ⟨x', e', w1, w2, w3, r', q⟩
    · rw [e1, e2]
    · have := q.1; omega
    · obtain ⟨⟨x, e, t⟩, -⟩ := three (x := (fun _ => 0, 0)) (e := 0) q
      exact (n8 t p).elim
    · exact (n8 r'.1.1.1 p).elim
  · rcases get hb with ⟨e2, q⟩ | ⟨e2, q⟩ | ⟨e2, q⟩ | ⟨x', e', w1, w2, w3, r', q⟩
    · have := p.1; omega
    · rw [e1, e2]
    · obtain ⟨⟨x, e, t⟩, -⟩ := three (x := (fun _ => 0, 0)) (e := 0) q
      exact (no0 t p.2).elim
    · exact (no0 r'.1.1.1 p.2).elim
  · obtain ⟨⟨x0, e0, t0⟩, t1⟩ := three (x := (fun _ => 0, 0)) (e := 0) p
    rcases get hb with ⟨e2, q⟩ | ⟨e2, q⟩ | ⟨e2, q⟩ | ⟨x', e', w1, w2, w3, r', q⟩
    · exact (n8 t0 q).elim
    · exact (no0 t0 q.2).elim
    · rw [e1, e2]
    · exact (t1 r').elim
  · rcases get hb with ⟨e2, q⟩ | ⟨e2, q⟩ | ⟨e2, q⟩ | ⟨x', e', w1, w2, w3, r', q⟩
    · exact (n8 r.1.1.1 q).elim
    · exact (no0 r.1.1.1 q.2).elim
    · obtain ⟨-, t1⟩ := three (x := (fun _ => 0, 0)) (e := 0) q
      exact (t1 r).elim
    · obtain ⟨rfl, rfl, rfl, rfl⟩ := Rd1.uq r r'
      rcases p with ⟨p1, p2⟩ | ⟨p1, p2, p3⟩ | ⟨p1, p2, p3⟩ <;> rcases q with ⟨q1, q2⟩ | ⟨q1, q2, q3⟩ | ⟨q1, q2, q3⟩
      · rw [p1, q1]
      · exact absurd p2 q2
      · exact absurd p2 q1
      · exact absurd q2 p2
      · rw [p1, q1]
      · exact absurd q2 p3
      · exact absurd q2 p1
      · exact absurd p2 q3
      · rw [p3, q3]
theorem wd4_lt {l : List Nat} (hl : ∀ i, (l).getD i 0 < 256) (a i : Nat) : dIs l a i < 2 ^ 32 := wd_lt hl _ 4
theorem Rd1.bd {l : List Nat} {x : Le} {e : Nat} {y1 y2 y3 : Rd3} (h : Rd1 l x e y1 y2 y3) : LenOk x.1 x.2 ∧ (∃ s, s < 256 ∧ x.1 s = x.2) ∧ TbOk 35 512 (y1.1, y1.2.1) ∧ TbOk 31 256 (y2.1, y2.2.1) ∧ TbOk 52 512 (y3.1, y3.2.1) ∧ 5 ≤ y1.1 ∧ 5 ≤ y2.1 ∧ 5 ≤ y3.1 ∧ e ≤ (l).length ∧ rdE y2 ≤ (l).length ∧ rdE y3 ≤ (l).length ∧ rdE y1 ≤ (l).length := by
  obtain ⟨a1, a2, a3, a4⟩ := rdC_ok h.1.1.1.2
  obtain ⟨b1, b2, b3, b4, b5, b6⟩ := rdS_ok (o := y2.1) (u := y2.2.1) (c := y2.2.2) (by decide) h.1.1.2
  obtain ⟨c1, c2, c3, c4, c5, c6⟩ := rdS_ok (o := y3.1) (u := y3.2.1) (c := y3.2.2) (by decide) h.1.2
  obtain ⟨d1, d2, d3, d4, d5, d6⟩ := rdS_ok (o := y1.1) (u := y1.2.1) (c := y1.2.2) (by decide) h.2
  refine ⟨a1, a2, ⟨Or.inr d1, d2, ?_, d4, d3⟩, ⟨Or.inr b1, by show y2.1 ≤ 9; omega, ?_, b4, b3⟩, ⟨Or.inr c1, c2, ?_, c4, c3⟩, d1, b1, c1, a3, by unfold rdE; omega, by unfold rdE; omega, by unfold rdE; omega⟩
  · exact Nat.pow_le_pow_right (n := 2) (by decide) d2
  · exact Nat.pow_le_pow_right (n := 2) (by decide) b2
  · exact Nat.pow_le_pow_right (n := 2) (by decide) c2
theorem RdT.ok {l : List Nat} {T : PkS} {a : Nat} (hl : (l).length ≤ 8000) (h : RdT l (.inr (T, a))) : PkOk T ∧ 12 ≤ a ∧ a ≤ (l).length := by
  obtain ⟨x, e, y1, y2, y3, r, q1, q2, q3⟩ := h
  have e1 : T = mkT l x y1 y2 y3 := congrArg Prod.fst q3
  have e2 : a = rdE y1 + 12 := congrArg Prod.snd q3
  obtain ⟨b1, b2, b3, b4, b5, b6, b7, b8, -⟩ := Rd1.bd r
  rw [e1, e2]
  refine ⟨⟨b1, ⟨b3, b4, b5⟩, ?_, ?_, ?_, ?_⟩, by omega, by omega⟩
  · have d0 := q2 0 (by decide)
    have d1 := q2 1 (by decide)
    have d2 := q2 2 (by decide)
    unfold dOk at d0 d1 d2
    show LatOk (dIs l (rdE y1) 0, dIs l (rdE y1) 1, dIs l (rdE y1) 2)
    exact ⟨Nat.pos_of_ne_zero d0.1, Nat.le_trans d0.2 (by omega), Nat.pos_of_ne_zero d1.1, Nat.le_trans d1.2 (by omega), Nat.pos_of_ne_zero d2.1, Nat.le_trans d2.2 (by omega)⟩
  · exact fun x hx hz => absurd hz (by rw [← Option.some.inj hx]; show y1.1 ≠ 0; omega)
  · exact fun x hx hz => absurd hz (by rw [← Option.some.inj hx]; show y2.1 ≠ 0; omega)
  · exact fun x hx hz => absurd hz (by rw [← Option.some.inj hx]; show y3.1 ≠ 0; omega)
