/-! the steps that leave the heap alone, and that the machine does them -/
/-- what holds at a method's entry -/
def Cx (cc : ByteArray) (nL : Nat) (own nm : String) (D : va_G) (cy : Nat → ClassId) (z : Nat) (st sl : Nat → Nat) (sx : Nat → Nat → Int32) (p : Program) (R : Room) (s : State) (m : MethodId) (args : Array Value) (meth : Method) (c : Code) : Prop :=
  p.tables.exec = Jvm.exec ∧ c.code = cc ∧ c.maxLocals = nL ∧ s.vm.findClass own = some m.cls ∧ (∀ w ∈ TBg, w.before args s = true) ∧ aEnv D cy z st sl sx s ∧ z ≤ s.heap.size ∧ meth.locks = false ∧ meth.name = nm ∧ 1 ≤ R.frames ∧ 34 ≤ R.locals
def Wg (D : va_G) (cy : Nat → ClassId) (z : Nat) (st sl : Nat → Nat) (sx : Nat → Nat → Int32) (nL n0 s0 : Nat) (p : Program) (l : Launch) (e : Env) (R : Room) (s : State) (m : MethodId) (args : Array Value) (below : List Frame) (meth : Method) (c : Code) (Q : State → Prop) (pc : Nat) (L : aL) (S : List Value) (H : aH) : Prop :=
  ∀ (Hp : Heap) (locs : List Loc) (ls : Array Slot), Sim D cy z st sl sx H Hp → va_S (aA z) s.heap Hp locs → lv_has ls nL (cvL z st L) → W p l e R s m args below meth c Hp locs (H.1 - n0) (H.2.1 - s0) Q (F0 m pc ls (S.map (cv z st)))
def Mono (f : aF) : Prop := ∀ L S H x, f L S H = some x → H.1 ≤ x.2.2.2.1 ∧ H.2.1 ≤ x.2.2.2.2.1
def Okf (cc : ByteArray) (nL : Nat) (own nm : String) (pc : Nat) (f : aF) : Prop := LMono f ∧ Mono f ∧
  ∀ (D : va_G) (cy : Nat → ClassId) (z : Nat) (st sl : Nat → Nat) (sx : Nat → Nat → Int32) (n0 s0 : Nat) (p : Program) (l : Launch) (e : Env) (R : Room) (s : State) (m : MethodId) (args : Array Value) (below : List Frame) (meth : Method) (c : Code) (Q : State → Prop),
    Cx cc nL own nm D cy z st sl sx p R s m args meth c → ∀ (L : aL) (S : List Value) (H : aH) (x : aS), f L S H = some x → n0 ≤ H.1 → s0 ≤ H.2.1 → x.2.2.2.1 ≤ n0 + R.cells → x.2.2.2.2.1 ≤ s0 + R.slots →
    Wg D cy z st sl sx nL n0 s0 p l e R s m args below meth c Q x.1 x.2.1 x.2.2.1 x.2.2.2 → Wg D cy z st sl sx nL n0 s0 p l e R s m args below meth c Q pc L S H
theorem lvg {ls : Array Slot} {nL z : Nat} {st : Nat → Nat} {L : aL} {i : Nat} {v : Value} (h : lv_has ls nL (cvL z st L)) (hg : lget L i = some v) : ls[i]? = some (.val (cv z st v)) :=
  h.2.2 (i, cv z st v) (List.mem_map.mpr ⟨(i, v), lget_mem hg, rfl⟩)

def a_ib (op : Int32 → Int32 → Int32) (nx : Nat) : aF := fun L S H => match S with
  | .int y :: .int x :: S => some (nx, L, .int (op x y) :: S, H)
  | _ => none
theorem s_iadd {cc : ByteArray} {nL : Nat} {own nm : String} {pc : Nat} (d : decode cc pc = .ok (.iadd, 1)) : Okf cc nL own nm pc (a_ib (fun x y => x + y) (pc + 1)) := by
  refine ⟨lm_in (by intro L L2 S H; unfold a_ib; (repeat' split) <;> first | rfl | simp_all) (by intro L S H x hx; unfold a_ib at hx; (repeat' split at hx) <;> first | (cases hx; rfl) | cases hx), fun L S H x hx => ?_, ?_⟩
  · unfold a_ib at hx
    split at hx
    · cases hx; exact ⟨Nat.le_refl _, Nat.le_refl _⟩
    · cases hx
  · intro D cy z st sl sx n0 s0 p l e R s m args below meth c Q C L S H x hx h1 h2 h3 h4 k
    unfold a_ib at hx
    split at hx
    · cases hx
      intro Hp locs ls hs hS hl
      exact lv_iadd C.1 C.2.1 d (k Hp locs ls hs hS hl)
    · cases hx
theorem s_isub {cc : ByteArray} {nL : Nat} {own nm : String} {pc : Nat} (d : decode cc pc = .ok (.isub, 1)) : Okf cc nL own nm pc (a_ib (fun x y => x - y) (pc + 1)) := by
  refine ⟨lm_in (by intro L L2 S H; unfold a_ib; (repeat' split) <;> first | rfl | simp_all) (by intro L S H x hx; unfold a_ib at hx; (repeat' split at hx) <;> first | (cases hx; rfl) | cases hx), fun L S H x hx => ?_, ?_⟩
  · unfold a_ib at hx
    split at hx
    · cases hx; exact ⟨Nat.le_refl _, Nat.le_refl _⟩
    · cases hx
  · intro D cy z st sl sx n0 s0 p l e R s m args below meth c Q C L S H x hx h1 h2 h3 h4 k
    unfold a_ib at hx
    split at hx
    · cases hx
      intro Hp locs ls hs hS hl
      exact lv_isub C.1 C.2.1 d (k Hp locs ls hs hS hl)
    · cases hx
theorem s_imul {cc : ByteArray} {nL : Nat} {own nm : String} {pc : Nat} (d : decode cc pc = .ok (.imul, 1)) : Okf cc nL own nm pc (a_ib (fun x y => x * y) (pc + 1)) := by
  refine ⟨lm_in (by intro L L2 S H; unfold a_ib; (repeat' split) <;> first | rfl | simp_all) (by intro L S H x hx; unfold a_ib at hx; (repeat' split at hx) <;> first | (cases hx; rfl) | cases hx), fun L S H x hx => ?_, ?_⟩
  · unfold a_ib at hx
    split at hx
    · cases hx; exact ⟨Nat.le_refl _, Nat.le_refl _⟩
    · cases hx
  · intro D cy z st sl sx n0 s0 p l e R s m args below meth c Q C L S H x hx h1 h2 h3 h4 k
    unfold a_ib at hx
    split at hx
    · cases hx
      intro Hp locs ls hs hS hl
      exact lv_imul C.1 C.2.1 d (k Hp locs ls hs hS hl)
    · cases hx
theorem s_iand {cc : ByteArray} {nL : Nat} {own nm : String} {pc : Nat} (d : decode cc pc = .ok (.iand, 1)) : Okf cc nL own nm pc (a_ib (fun x y => x &&& y) (pc + 1)) := by
  refine ⟨lm_in (by intro L L2 S H; unfold a_ib; (repeat' split) <;> first | rfl | simp_all) (by intro L S H x hx; unfold a_ib at hx; (repeat' split at hx) <;> first | (cases hx; rfl) | cases hx), fun L S H x hx => ?_, ?_⟩
  · unfold a_ib at hx
    split at hx
    · cases hx; exact ⟨Nat.le_refl _, Nat.le_refl _⟩
    · cases hx
  · intro D cy z st sl sx n0 s0 p l e R s m args below meth c Q C L S H x hx h1 h2 h3 h4 k
    unfold a_ib at hx
    split at hx
    · cases hx
      intro Hp locs ls hs hS hl
      exact lv_iand C.1 C.2.1 d (k Hp locs ls hs hS hl)
    · cases hx
theorem s_ior {cc : ByteArray} {nL : Nat} {own nm : String} {pc : Nat} (d : decode cc pc = .ok (.ior, 1)) : Okf cc nL own nm pc (a_ib (fun x y => x ||| y) (pc + 1)) := by
  refine ⟨lm_in (by intro L L2 S H; unfold a_ib; (repeat' split) <;> first | rfl | simp_all) (by intro L S H x hx; unfold a_ib at hx; (repeat' split at hx) <;> first | (cases hx; rfl) | cases hx), fun L S H x hx => ?_, ?_⟩
  · unfold a_ib at hx
    split at hx
    · cases hx; exact ⟨Nat.le_refl _, Nat.le_refl _⟩
    · cases hx
  · intro D cy z st sl sx n0 s0 p l e R s m args below meth c Q C L S H x hx h1 h2 h3 h4 k
    unfold a_ib at hx
    split at hx
    · cases hx
      intro Hp locs ls hs hS hl
      exact lv_ior C.1 C.2.1 d (k Hp locs ls hs hS hl)
    · cases hx
theorem s_ixor {cc : ByteArray} {nL : Nat} {own nm : String} {pc : Nat} (d : decode cc pc = .ok (.ixor, 1)) : Okf cc nL own nm pc (a_ib (fun x y => x ^^^ y) (pc + 1)) := by
  refine ⟨lm_in (by intro L L2 S H; unfold a_ib; (repeat' split) <;> first | rfl | simp_all) (by intro L S H x hx; unfold a_ib at hx; (repeat' split at hx) <;> first | (cases hx; rfl) | cases hx), fun L S H x hx => ?_, ?_⟩
  · unfold a_ib at hx
    split at hx
    · cases hx; exact ⟨Nat.le_refl _, Nat.le_refl _⟩
    · cases hx
  · intro D cy z st sl sx n0 s0 p l e R s m args below meth c Q C L S H x hx h1 h2 h3 h4 k
    unfold a_ib at hx
    split at hx
    · cases hx
      intro Hp locs ls hs hS hl
      exact lv_ixor C.1 C.2.1 d (k Hp locs ls hs hS hl)
    · cases hx
theorem s_ishl {cc : ByteArray} {nL : Nat} {own nm : String} {pc : Nat} (d : decode cc pc = .ok (.ishl, 1)) : Okf cc nL own nm pc (a_ib (fun x y => x <<< (y &&& 31)) (pc + 1)) := by
  refine ⟨lm_in (by intro L L2 S H; unfold a_ib; (repeat' split) <;> first | rfl | simp_all) (by intro L S H x hx; unfold a_ib at hx; (repeat' split at hx) <;> first | (cases hx; rfl) | cases hx), fun L S H x hx => ?_, ?_⟩
  · unfold a_ib at hx
    split at hx
    · cases hx; exact ⟨Nat.le_refl _, Nat.le_refl _⟩
    · cases hx
  · intro D cy z st sl sx n0 s0 p l e R s m args below meth c Q C L S H x hx h1 h2 h3 h4 k
    unfold a_ib at hx
    split at hx
    · cases hx
      intro Hp locs ls hs hS hl
      exact lv_ishl C.1 C.2.1 d (k Hp locs ls hs hS hl)
    · cases hx
theorem s_ishr {cc : ByteArray} {nL : Nat} {own nm : String} {pc : Nat} (d : decode cc pc = .ok (.ishr, 1)) : Okf cc nL own nm pc (a_ib (fun x y => x >>> (y &&& 31)) (pc + 1)) := by
  refine ⟨lm_in (by intro L L2 S H; unfold a_ib; (repeat' split) <;> first | rfl | simp_all) (by intro L S H x hx; unfold a_ib at hx; (repeat' split at hx) <;> first | (cases hx; rfl) | cases hx), fun L S H x hx => ?_, ?_⟩
  · unfold a_ib at hx
    split at hx
    · cases hx; exact ⟨Nat.le_refl _, Nat.le_refl _⟩
    · cases hx
  · intro D cy z st sl sx n0 s0 p l e R s m args below meth c Q C L S H x hx h1 h2 h3 h4 k
    unfold a_ib at hx
    split at hx
    · cases hx
      intro Hp locs ls hs hS hl
      exact lv_ishr C.1 C.2.1 d (k Hp locs ls hs hS hl)
    · cases hx
theorem s_iushr {cc : ByteArray} {nL : Nat} {own nm : String} {pc : Nat} (d : decode cc pc = .ok (.iushr, 1)) : Okf cc nL own nm pc (a_ib (fun x y => (x.toUInt32 >>> (y.toUInt32 &&& Int32.toUInt32 31)).toInt32) (pc + 1)) := by
  refine ⟨lm_in (by intro L L2 S H; unfold a_ib; (repeat' split) <;> first | rfl | simp_all) (by intro L S H x hx; unfold a_ib at hx; (repeat' split at hx) <;> first | (cases hx; rfl) | cases hx), fun L S H x hx => ?_, ?_⟩
  · unfold a_ib at hx
    split at hx
    · cases hx; exact ⟨Nat.le_refl _, Nat.le_refl _⟩
    · cases hx
  · intro D cy z st sl sx n0 s0 p l e R s m args below meth c Q C L S H x hx h1 h2 h3 h4 k
    unfold a_ib at hx
    split at hx
    · cases hx
      intro Hp locs ls hs hS hl
      exact lv_iushr C.1 C.2.1 d rfl (k Hp locs ls hs hS hl)
    · cases hx
def a_id (op : Int32 → Int32 → Int32) (nx : Nat) : aF := fun L S H => match S with
  | .int y :: .int x :: S => if ¬ y = 0 then some (nx, L, .int (op x y) :: S, H) else none
  | _ => none
theorem s_idiv {cc : ByteArray} {nL : Nat} {own nm : String} {pc : Nat} (d : decode cc pc = .ok (.idiv, 1)) : Okf cc nL own nm pc (a_id (fun x y => x / y) (pc + 1)) := by
  refine ⟨lm_in (by intro L L2 S H; unfold a_id; (repeat' split) <;> first | rfl | simp_all) (by intro L S H x hx; unfold a_id at hx; (repeat' split at hx) <;> first | (cases hx; rfl) | cases hx), fun L S H x hx => ?_, ?_⟩
  · unfold a_id at hx
    split at hx
    · split at hx
      · cases hx; exact ⟨Nat.le_refl _, Nat.le_refl _⟩
      · cases hx
    · cases hx
  · intro D cy z st sl sx n0 s0 p l e R s m args below meth c Q C L S H x hx h1 h2 h3 h4 k
    unfold a_id at hx
    split at hx
    · split at hx
      · rename_i hc
        cases hx
        intro Hp locs ls hs hS hl
        exact lv_idiv C.1 C.2.1 d hc (k Hp locs ls hs hS hl)
      · cases hx
    · cases hx
theorem s_irem {cc : ByteArray} {nL : Nat} {own nm : String} {pc : Nat} (d : decode cc pc = .ok (.irem, 1)) : Okf cc nL own nm pc (a_id (fun x y => x - x / y * y) (pc + 1)) := by
  refine ⟨lm_in (by intro L L2 S H; unfold a_id; (repeat' split) <;> first | rfl | simp_all) (by intro L S H x hx; unfold a_id at hx; (repeat' split at hx) <;> first | (cases hx; rfl) | cases hx), fun L S H x hx => ?_, ?_⟩
  · unfold a_id at hx
    split at hx
    · split at hx
      · cases hx; exact ⟨Nat.le_refl _, Nat.le_refl _⟩
      · cases hx
    · cases hx
  · intro D cy z st sl sx n0 s0 p l e R s m args below meth c Q C L S H x hx h1 h2 h3 h4 k
    unfold a_id at hx
    split at hx
    · split at hx
      · rename_i hc
        cases hx
        intro Hp locs ls hs hS hl
        exact lv_irem C.1 C.2.1 d hc (k Hp locs ls hs hS hl)
      · cases hx
    · cases hx
def a_lb (op : Int64 → Int64 → Int64) (nx : Nat) : aF := fun L S H => match S with
  | .long y :: .long x :: S => some (nx, L, .long (op x y) :: S, H)
  | _ => none
theorem s_ladd {cc : ByteArray} {nL : Nat} {own nm : String} {pc : Nat} (d : decode cc pc = .ok (.ladd, 1)) : Okf cc nL own nm pc (a_lb (fun x y => x + y) (pc + 1)) := by
  refine ⟨lm_in (by intro L L2 S H; unfold a_lb; (repeat' split) <;> first | rfl | simp_all) (by intro L S H x hx; unfold a_lb at hx; (repeat' split at hx) <;> first | (cases hx; rfl) | cases hx), fun L S H x hx => ?_, ?_⟩
  · unfold a_lb at hx
    split at hx
    · cases hx; exact ⟨Nat.le_refl _, Nat.le_refl _⟩
    · cases hx
  · intro D cy z st sl sx n0 s0 p l e R s m args below meth c Q C L S H x hx h1 h2 h3 h4 k
    unfold a_lb at hx
    split at hx
    · cases hx
      intro Hp locs ls hs hS hl
      exact lv_ladd C.1 C.2.1 d (k Hp locs ls hs hS hl)
    · cases hx
theorem s_lsub {cc : ByteArray} {nL : Nat} {own nm : String} {pc : Nat} (d : decode cc pc = .ok (.lsub, 1)) : Okf cc nL own nm pc (a_lb (fun x y => x - y) (pc + 1)) := by
  refine ⟨lm_in (by intro L L2 S H; unfold a_lb; (repeat' split) <;> first | rfl | simp_all) (by intro L S H x hx; unfold a_lb at hx; (repeat' split at hx) <;> first | (cases hx; rfl) | cases hx), fun L S H x hx => ?_, ?_⟩
  · unfold a_lb at hx
    split at hx
    · cases hx; exact ⟨Nat.le_refl _, Nat.le_refl _⟩
    · cases hx
  · intro D cy z st sl sx n0 s0 p l e R s m args below meth c Q C L S H x hx h1 h2 h3 h4 k
    unfold a_lb at hx
    split at hx
    · cases hx
      intro Hp locs ls hs hS hl
      exact lv_lsub C.1 C.2.1 d (k Hp locs ls hs hS hl)
    · cases hx
theorem s_lmul {cc : ByteArray} {nL : Nat} {own nm : String} {pc : Nat} (d : decode cc pc = .ok (.lmul, 1)) : Okf cc nL own nm pc (a_lb (fun x y => x * y) (pc + 1)) := by
  refine ⟨lm_in (by intro L L2 S H; unfold a_lb; (repeat' split) <;> first | rfl | simp_all) (by intro L S H x hx; unfold a_lb at hx; (repeat' split at hx) <;> first | (cases hx; rfl) | cases hx), fun L S H x hx => ?_, ?_⟩
  · unfold a_lb at hx
    split at hx
    · cases hx; exact ⟨Nat.le_refl _, Nat.le_refl _⟩
    · cases hx
  · intro D cy z st sl sx n0 s0 p l e R s m args below meth c Q C L S H x hx h1 h2 h3 h4 k
    unfold a_lb at hx
    split at hx
    · cases hx
      intro Hp locs ls hs hS hl
      exact lv_lmul C.1 C.2.1 d (k Hp locs ls hs hS hl)
    · cases hx
theorem s_land {cc : ByteArray} {nL : Nat} {own nm : String} {pc : Nat} (d : decode cc pc = .ok (.land, 1)) : Okf cc nL own nm pc (a_lb (fun x y => x &&& y) (pc + 1)) := by
  refine ⟨lm_in (by intro L L2 S H; unfold a_lb; (repeat' split) <;> first | rfl | simp_all) (by intro L S H x hx; unfold a_lb at hx; (repeat' split at hx) <;> first | (cases hx; rfl) | cases hx), fun L S H x hx => ?_, ?_⟩
  · unfold a_lb at hx
    split at hx
    · cases hx; exact ⟨Nat.le_refl _, Nat.le_refl _⟩
    · cases hx
  · intro D cy z st sl sx n0 s0 p l e R s m args below meth c Q C L S H x hx h1 h2 h3 h4 k
    unfold a_lb at hx
    split at hx
    · cases hx
      intro Hp locs ls hs hS hl
      exact lv_land C.1 C.2.1 d (k Hp locs ls hs hS hl)
    · cases hx
theorem s_lor {cc : ByteArray} {nL : Nat} {own nm : String} {pc : Nat} (d : decode cc pc = .ok (.lor, 1)) : Okf cc nL own nm pc (a_lb (fun x y => x ||| y) (pc + 1)) := by
  refine ⟨lm_in (by intro L L2 S H; unfold a_lb; (repeat' split) <;> first | rfl | simp_all) (by intro L S H x hx; unfold a_lb at hx; (repeat' split at hx) <;> first | (cases hx; rfl) | cases hx), fun L S H x hx => ?_, ?_⟩
  · unfold a_lb at hx
    split at hx
    · cases hx; exact ⟨Nat.le_refl _, Nat.le_refl _⟩
    · cases hx
  · intro D cy z st sl sx n0 s0 p l e R s m args below meth c Q C L S H x hx h1 h2 h3 h4 k
    unfold a_lb at hx
    split at hx
    · cases hx
      intro Hp locs ls hs hS hl
      exact lv_lor C.1 C.2.1 d (k Hp locs ls hs hS hl)
    · cases hx
theorem s_lxor {cc : ByteArray} {nL : Nat} {own nm : String} {pc : Nat} (d : decode cc pc = .ok (.lxor, 1)) : Okf cc nL own nm pc (a_lb (fun x y => x ^^^ y) (pc + 1)) := by
  refine ⟨lm_in (by intro L L2 S H; unfold a_lb; (repeat' split) <;> first | rfl | simp_all) (by intro L S H x hx; unfold a_lb at hx; (repeat' split at hx) <;> first | (cases hx; rfl) | cases hx), fun L S H x hx => ?_, ?_⟩
  · unfold a_lb at hx
    split at hx
    · cases hx; exact ⟨Nat.le_refl _, Nat.le_refl _⟩
    · cases hx
  · intro D cy z st sl sx n0 s0 p l e R s m args below meth c Q C L S H x hx h1 h2 h3 h4 k
    unfold a_lb at hx
    split at hx
    · cases hx
      intro Hp locs ls hs hS hl
      exact lv_lxor C.1 C.2.1 d (k Hp locs ls hs hS hl)
    · cases hx
def a_ls (op : Int64 → Int32 → Int64) (nx : Nat) : aF := fun L S H => match S with
  | .int y :: .long x :: S => some (nx, L, .long (op x y) :: S, H)
  | _ => none
theorem s_lshl {cc : ByteArray} {nL : Nat} {own nm : String} {pc : Nat} (d : decode cc pc = .ok (.lshl, 1)) : Okf cc nL own nm pc (a_ls (fun x y => x <<< (y.toInt64 &&& 63)) (pc + 1)) := by
  refine ⟨lm_in (by intro L L2 S H; unfold a_ls; (repeat' split) <;> first | rfl | simp_all) (by intro L S H x hx; unfold a_ls at hx; (repeat' split at hx) <;> first | (cases hx; rfl) | cases hx), fun L S H x hx => ?_, ?_⟩
  · unfold a_ls at hx
    split at hx
    · cases hx; exact ⟨Nat.le_refl _, Nat.le_refl _⟩
    · cases hx
  · intro D cy z st sl sx n0 s0 p l e R s m args below meth c Q C L S H x hx h1 h2 h3 h4 k
    unfold a_ls at hx
    split at hx
    · cases hx
      intro Hp locs ls hs hS hl
      exact lv_lshl C.1 C.2.1 d rfl (k Hp locs ls hs hS hl)
    · cases hx
theorem s_lshr {cc : ByteArray} {nL : Nat} {own nm : String} {pc : Nat} (d : decode cc pc = .ok (.lshr, 1)) : Okf cc nL own nm pc (a_ls (fun x y => x >>> (y.toInt64 &&& 63)) (pc + 1)) := by
  refine ⟨lm_in (by intro L L2 S H; unfold a_ls; (repeat' split) <;> first | rfl | simp_all) (by intro L S H x hx; unfold a_ls at hx; (repeat' split at hx) <;> first | (cases hx; rfl) | cases hx), fun L S H x hx => ?_, ?_⟩
  · unfold a_ls at hx
    split at hx
    · cases hx; exact ⟨Nat.le_refl _, Nat.le_refl _⟩
    · cases hx
  · intro D cy z st sl sx n0 s0 p l e R s m args below meth c Q C L S H x hx h1 h2 h3 h4 k
    unfold a_ls at hx
    split at hx
    · cases hx
      intro Hp locs ls hs hS hl
      exact lv_lshr C.1 C.2.1 d rfl (k Hp locs ls hs hS hl)
    · cases hx
theorem s_lushr {cc : ByteArray} {nL : Nat} {own nm : String} {pc : Nat} (d : decode cc pc = .ok (.lushr, 1)) : Okf cc nL own nm pc (a_ls (fun x y => (x.toUInt64 >>> (y.toInt64.toUInt64 &&& Int64.toUInt64 63)).toInt64) (pc + 1)) := by
  refine ⟨lm_in (by intro L L2 S H; unfold a_ls; (repeat' split) <;> first | rfl | simp_all) (by intro L S H x hx; unfold a_ls at hx; (repeat' split at hx) <;> first | (cases hx; rfl) | cases hx), fun L S H x hx => ?_, ?_⟩
  · unfold a_ls at hx
    split at hx
    · cases hx; exact ⟨Nat.le_refl _, Nat.le_refl _⟩
    · cases hx
  · intro D cy z st sl sx n0 s0 p l e R s m args below meth c Q C L S H x hx h1 h2 h3 h4 k
    unfold a_ls at hx
    split at hx
    · cases hx
      intro Hp locs ls hs hS hl
      exact lv_lushr C.1 C.2.1 d rfl (k Hp locs ls hs hS hl)
    · cases hx
def a_iu (op : Int32 → Int32) (nx : Nat) : aF := fun L S H => match S with
  | .int x :: S => some (nx, L, .int (op x) :: S, H)
  | _ => none
theorem s_ineg {cc : ByteArray} {nL : Nat} {own nm : String} {pc : Nat} (d : decode cc pc = .ok (.ineg, 1)) : Okf cc nL own nm pc (a_iu (fun x => -x) (pc + 1)) := by
  refine ⟨lm_in (by intro L L2 S H; unfold a_iu; (repeat' split) <;> first | rfl | simp_all) (by intro L S H x hx; unfold a_iu at hx; (repeat' split at hx) <;> first | (cases hx; rfl) | cases hx), fun L S H x hx => ?_, ?_⟩
  · unfold a_iu at hx
    split at hx
    · cases hx; exact ⟨Nat.le_refl _, Nat.le_refl _⟩
    · cases hx
  · intro D cy z st sl sx n0 s0 p l e R s m args below meth c Q C L S H x hx h1 h2 h3 h4 k
    unfold a_iu at hx
    split at hx
    · cases hx
      intro Hp locs ls hs hS hl
      exact lv_ineg C.1 C.2.1 d (k Hp locs ls hs hS hl)
    · cases hx
theorem s_i2b {cc : ByteArray} {nL : Nat} {own nm : String} {pc : Nat} (d : decode cc pc = .ok (.i2b, 1)) : Okf cc nL own nm pc (a_iu (fun x => x.toInt8.toInt32) (pc + 1)) := by
  refine ⟨lm_in (by intro L L2 S H; unfold a_iu; (repeat' split) <;> first | rfl | simp_all) (by intro L S H x hx; unfold a_iu at hx; (repeat' split at hx) <;> first | (cases hx; rfl) | cases hx), fun L S H x hx => ?_, ?_⟩
  · unfold a_iu at hx
    split at hx
    · cases hx; exact ⟨Nat.le_refl _, Nat.le_refl _⟩
    · cases hx
  · intro D cy z st sl sx n0 s0 p l e R s m args below meth c Q C L S H x hx h1 h2 h3 h4 k
    unfold a_iu at hx
    split at hx
    · cases hx
      intro Hp locs ls hs hS hl
      exact lv_i2b C.1 C.2.1 d rfl (k Hp locs ls hs hS hl)
    · cases hx
def a_i2l (nx : Nat) : aF := fun L S H => match S with
  | .int x :: S => some (nx, L, .long x.toInt64 :: S, H)
  | _ => none
theorem s_i2l {cc : ByteArray} {nL : Nat} {own nm : String} {pc : Nat} (d : decode cc pc = .ok (.i2l, 1)) : Okf cc nL own nm pc (a_i2l (pc + 1)) := by
  refine ⟨lm_in (by intro L L2 S H; unfold a_i2l; (repeat' split) <;> first | rfl | simp_all) (by intro L S H x hx; unfold a_i2l at hx; (repeat' split at hx) <;> first | (cases hx; rfl) | cases hx), fun L S H x hx => ?_, ?_⟩
  · unfold a_i2l at hx
    split at hx
    · cases hx; exact ⟨Nat.le_refl _, Nat.le_refl _⟩
    · cases hx
  · intro D cy z st sl sx n0 s0 p l e R s m args below meth c Q C L S H x hx h1 h2 h3 h4 k
    unfold a_i2l at hx
    split at hx
    · cases hx
      intro Hp locs ls hs hS hl
      exact lv_i2l C.1 C.2.1 d rfl (k Hp locs ls hs hS hl)
    · cases hx
def a_l2i (nx : Nat) : aF := fun L S H => match S with
  | .long x :: S => some (nx, L, .int x.toInt32 :: S, H)
  | _ => none
theorem s_l2i {cc : ByteArray} {nL : Nat} {own nm : String} {pc : Nat} (d : decode cc pc = .ok (.l2i, 1)) : Okf cc nL own nm pc (a_l2i (pc + 1)) := by
  refine ⟨lm_in (by intro L L2 S H; unfold a_l2i; (repeat' split) <;> first | rfl | simp_all) (by intro L S H x hx; unfold a_l2i at hx; (repeat' split at hx) <;> first | (cases hx; rfl) | cases hx), fun L S H x hx => ?_, ?_⟩
  · unfold a_l2i at hx
    split at hx
    · cases hx; exact ⟨Nat.le_refl _, Nat.le_refl _⟩
    · cases hx
  · intro D cy z st sl sx n0 s0 p l e R s m args below meth c Q C L S H x hx h1 h2 h3 h4 k
    unfold a_l2i at hx
    split at hx
    · cases hx
      intro Hp locs ls hs hS hl
      exact lv_l2i C.1 C.2.1 d rfl (k Hp locs ls hs hS hl)
    · cases hx
def a_lcmp (nx : Nat) : aF := fun L S H => match S with
  | .long y :: .long x :: S => some (nx, L, .int (lg_cmp x y) :: S, H)
  | _ => none
theorem s_lcmp {cc : ByteArray} {nL : Nat} {own nm : String} {pc : Nat} (d : decode cc pc = .ok (.lcmp, 1)) : Okf cc nL own nm pc (a_lcmp (pc + 1)) := by
  refine ⟨lm_in (by intro L L2 S H; unfold a_lcmp; (repeat' split) <;> first | rfl | simp_all) (by intro L S H x hx; unfold a_lcmp at hx; (repeat' split at hx) <;> first | (cases hx; rfl) | cases hx), fun L S H x hx => ?_, ?_⟩
  · unfold a_lcmp at hx
    split at hx
    · cases hx; exact ⟨Nat.le_refl _, Nat.le_refl _⟩
    · cases hx
  · intro D cy z st sl sx n0 s0 p l e R s m args below meth c Q C L S H x hx h1 h2 h3 h4 k
    unfold a_lcmp at hx
    split at hx
    · cases hx
      intro Hp locs ls hs hS hl
      exact W.lcmp C.1 C.2.1 d (k Hp locs ls hs hS hl)
    · cases hx
def a_dup (nx : Nat) : aF := fun L S H => match S with
  | v :: S => if v.category = 1 then some (nx, L, v :: v :: S, H) else none
  | _ => none
theorem s_dup {cc : ByteArray} {nL : Nat} {own nm : String} {pc : Nat} (d : decode cc pc = .ok (.dup, 1)) : Okf cc nL own nm pc (a_dup (pc + 1)) := by
  refine ⟨lm_in (by intro L L2 S H; unfold a_dup; (repeat' split) <;> first | rfl | simp_all) (by intro L S H x hx; unfold a_dup at hx; (repeat' split at hx) <;> first | (cases hx; rfl) | cases hx), fun L S H x hx => ?_, ?_⟩
  · unfold a_dup at hx
    split at hx
    · split at hx
      · cases hx; exact ⟨Nat.le_refl _, Nat.le_refl _⟩
      · cases hx
    · cases hx
  · intro D cy z st sl sx n0 s0 p l e R s m args below meth c Q C L S H x hx h1 h2 h3 h4 k
    unfold a_dup at hx
    split at hx
    · split at hx
      · rename_i hc
        cases hx
        intro Hp locs ls hs hS hl
        exact lv_dup C.1 C.2.1 d (by rw [cv_cat]; exact hc) (k Hp locs ls hs hS hl)
      · cases hx
    · cases hx
def a_dup2 (nx : Nat) : aF := fun L S H => match S with
  | v :: u :: S => if v.category = 1 ∧ u.category = 1 then some (nx, L, v :: u :: v :: u :: S, H) else none
  | _ => none
theorem s_dup2 {cc : ByteArray} {nL : Nat} {own nm : String} {pc : Nat} (d : decode cc pc = .ok (.dup2, 1)) : Okf cc nL own nm pc (a_dup2 (pc + 1)) := by
  refine ⟨lm_in (by intro L L2 S H; unfold a_dup2; (repeat' split) <;> first | rfl | simp_all) (by intro L S H x hx; unfold a_dup2 at hx; (repeat' split at hx) <;> first | (cases hx; rfl) | cases hx), fun L S H x hx => ?_, ?_⟩
  · unfold a_dup2 at hx
    split at hx
    · split at hx
      · cases hx; exact ⟨Nat.le_refl _, Nat.le_refl _⟩
      · cases hx
    · cases hx
  · intro D cy z st sl sx n0 s0 p l e R s m args below meth c Q C L S H x hx h1 h2 h3 h4 k
    unfold a_dup2 at hx
    split at hx
    · split at hx
      · rename_i hc
        cases hx
        intro Hp locs ls hs hS hl
        exact lv_dup2_11 C.1 C.2.1 d (by rw [cv_cat]; exact hc.1) (by rw [cv_cat]; exact hc.2) (k Hp locs ls hs hS hl)
      · cases hx
    · cases hx
def a_ic (v : Int32) (nx : Nat) : aF := fun L S H => some (nx, L, .int v :: S, H)
def a_lc (v : Int64) (nx : Nat) : aF := fun L S H => some (nx, L, .long v :: S, H)
theorem s_iconst {n : Int} {v : Int32} (hv : Int32.ofInt n = v) {cc : ByteArray} {nL : Nat} {own nm : String} {pc : Nat} (d : decode cc pc = .ok (.iconst n, 1)) : Okf cc nL own nm pc (a_ic v (pc + 1)) := by
  refine ⟨lm_in (by intro L L2 S H; unfold a_ic; (repeat' split) <;> first | rfl | simp_all) (by intro L S H x hx; unfold a_ic at hx; (repeat' split at hx) <;> first | (cases hx; rfl) | cases hx), fun L S H x hx => by cases hx; exact ⟨Nat.le_refl _, Nat.le_refl _⟩, ?_⟩
  intro D cy z st sl sx n0 s0 p l e R s m args below meth c Q C L S H x hx h1 h2 h3 h4 k
  cases hx
  intro Hp locs ls hs hS hl
  exact lv_iconst C.1 C.2.1 d hv (k Hp locs ls hs hS hl)
theorem s_bipush {n : Int} {v : Int32} (hv : (Int8.ofInt n).toInt32 = v) {cc : ByteArray} {nL : Nat} {own nm : String} {pc : Nat} (d : decode cc pc = .ok (.bipush n, 2)) : Okf cc nL own nm pc (a_ic v (pc + 2)) := by
  refine ⟨lm_in (by intro L L2 S H; unfold a_ic; (repeat' split) <;> first | rfl | simp_all) (by intro L S H x hx; unfold a_ic at hx; (repeat' split at hx) <;> first | (cases hx; rfl) | cases hx), fun L S H x hx => by cases hx; exact ⟨Nat.le_refl _, Nat.le_refl _⟩, ?_⟩
  intro D cy z st sl sx n0 s0 p l e R s m args below meth c Q C L S H x hx h1 h2 h3 h4 k
  cases hx
  intro Hp locs ls hs hS hl
  exact lv_bipush C.1 C.2.1 d hv (k Hp locs ls hs hS hl)
theorem s_sipush {n : Int} {v : Int32} (hv : (Int16.ofInt n).toInt32 = v) {cc : ByteArray} {nL : Nat} {own nm : String} {pc : Nat} (d : decode cc pc = .ok (.sipush n, 3)) : Okf cc nL own nm pc (a_ic v (pc + 3)) := by
  refine ⟨lm_in (by intro L L2 S H; unfold a_ic; (repeat' split) <;> first | rfl | simp_all) (by intro L S H x hx; unfold a_ic at hx; (repeat' split at hx) <;> first | (cases hx; rfl) | cases hx), fun L S H x hx => by cases hx; exact ⟨Nat.le_refl _, Nat.le_refl _⟩, ?_⟩
  intro D cy z st sl sx n0 s0 p l e R s m args below meth c Q C L S H x hx h1 h2 h3 h4 k
  cases hx
  intro Hp locs ls hs hS hl
  exact lv_sipush C.1 C.2.1 d hv (k Hp locs ls hs hS hl)
theorem s_lconst {n : Fin 2} {v : Int64} (hv : Int64.ofNat (n : Nat) = v) {cc : ByteArray} {nL : Nat} {own nm : String} {pc : Nat} (d : decode cc pc = .ok (.lconst n, 1)) : Okf cc nL own nm pc (a_lc v (pc + 1)) := by
  refine ⟨lm_in (by intro L L2 S H; unfold a_lc; (repeat' split) <;> first | rfl | simp_all) (by intro L S H x hx; unfold a_lc at hx; (repeat' split at hx) <;> first | (cases hx; rfl) | cases hx), fun L S H x hx => by cases hx; exact ⟨Nat.le_refl _, Nat.le_refl _⟩, ?_⟩
  intro D cy z st sl sx n0 s0 p l e R s m args below meth c Q C L S H x hx h1 h2 h3 h4 k
  cases hx
  intro Hp locs ls hs hS hl
  exact lv_lconst C.1 C.2.1 d hv (k Hp locs ls hs hS hl)
def a_go (tgt : Nat) : aF := fun L S H => some (tgt, L, S, H)
theorem s_goto {off : Int} {tgt : Nat} {cc : ByteArray} {nL : Nat} {own nm : String} {pc : Nat} (d : decode cc pc = .ok (.goto off, 3)) (ht : (pc : Int) + off = (tgt : Int)) : Okf cc nL own nm pc (a_go tgt) := by
  refine ⟨lm_in (by intro L L2 S H; unfold a_go; (repeat' split) <;> first | rfl | simp_all) (by intro L S H x hx; unfold a_go at hx; (repeat' split at hx) <;> first | (cases hx; rfl) | cases hx), fun L S H x hx => by cases hx; exact ⟨Nat.le_refl _, Nat.le_refl _⟩, ?_⟩
  intro D cy z st sl sx n0 s0 p l e R s m args below meth c Q C L S H x hx h1 h2 h3 h4 k
  cases hx
  intro Hp locs ls hs hS hl
  exact lv_goto C.1 C.2.1 d ht (k Hp locs ls hs hS hl)
theorem s_ldc {own : String} {i : Nat} {v : Int32} (hm : Cond.constant own i v ∈ TBg) {cc : ByteArray} {nL : Nat} {nm : String} {pc : Nat} (d : decode cc pc = .ok (.ldc i, 2)) : Okf cc nL own nm pc (a_ic v (pc + 2)) := by
  refine ⟨lm_in (by intro L L2 S H; unfold a_ic; (repeat' split) <;> first | rfl | simp_all) (by intro L S H x hx; unfold a_ic at hx; (repeat' split at hx) <;> first | (cases hx; rfl) | cases hx), fun L S H x hx => by cases hx; exact ⟨Nat.le_refl _, Nat.le_refl _⟩, ?_⟩
  intro D cy z st sl sx n0 s0 p l e R s m args below meth c Q C L S H x hx h1 h2 h3 h4 k
  cases hx
  intro Hp locs ls hs hS hl
  exact lv_ldc C.1 C.2.1 C.2.2.2.1 (C.2.2.2.2.1 _ hm) d (k Hp locs ls hs hS hl)
theorem s_ldc2 {own : String} {i : Nat} {v : Int64} (hm : Cond.constantLong own i v ∈ TBg) {cc : ByteArray} {nL : Nat} {nm : String} {pc : Nat} (d : decode cc pc = .ok (.ldc2_w i, 3)) : Okf cc nL own nm pc (a_lc v (pc + 3)) := by
  refine ⟨lm_in (by intro L L2 S H; unfold a_lc; (repeat' split) <;> first | rfl | simp_all) (by intro L S H x hx; unfold a_lc at hx; (repeat' split at hx) <;> first | (cases hx; rfl) | cases hx), fun L S H x hx => by cases hx; exact ⟨Nat.le_refl _, Nat.le_refl _⟩, ?_⟩
  intro D cy z st sl sx n0 s0 p l e R s m args below meth c Q C L S H x hx h1 h2 h3 h4 k
  cases hx
  intro Hp locs ls hs hS hl
  exact lv_ldc2 C.1 C.2.1 C.2.2.2.1 (C.2.2.2.2.1 _ hm) d (k Hp locs ls hs hS hl)
theorem s_ldcw {own : String} {i : Nat} {v : Int32} (hm : Cond.constant own i v ∈ TBg) {cc : ByteArray} {nL : Nat} {nm : String} {pc : Nat} (d : decode cc pc = .ok (.ldc_w i, 3)) : Okf cc nL own nm pc (a_ic v (pc + 3)) := by
  refine ⟨lm_in (by intro L L2 S H; unfold a_ic; (repeat' split) <;> first | rfl | simp_all) (by intro L S H x hx; unfold a_ic at hx; (repeat' split at hx) <;> first | (cases hx; rfl) | cases hx), fun L S H x hx => by cases hx; exact ⟨Nat.le_refl _, Nat.le_refl _⟩, ?_⟩
  intro D cy z st sl sx n0 s0 p l e R s m args below meth c Q C L S H x hx h1 h2 h3 h4 k
  cases hx
  intro Hp locs ls hs hS hl
  exact lv_ldcw C.1 C.2.1 C.2.2.2.1 (C.2.2.2.2.1 _ hm) d (k Hp locs ls hs hS hl)
def a_il (i nx : Nat) : aF := fun L S H => match lget L i with
  | some (.int x) => some (nx, L, .int x :: S, H)
  | _ => none
def a_ll (i nx : Nat) : aF := fun L S H => match lget L i with
  | some (.long x) => some (nx, L, .long x :: S, H)
  | _ => none
def a_al (i nx : Nat) : aF := fun L S H => match lget L i with
  | some (.ref x) => some (nx, L, .ref x :: S, H)
  | _ => none
theorem lm_ld_a_il {i nx : Nat} : LMono (a_il i nx) := by
  intro L L2 S H x hn hs hx
  unfold a_il at hx ⊢
  split at hx
  · rename_i v hg
    cases hx
    rw [lget_of_mem hn (hs _ (lget_mem hg))]
    exact ⟨L2, rfl, hs, hn⟩
  · cases hx
theorem lm_ld_a_ll {i nx : Nat} : LMono (a_ll i nx) := by
  intro L L2 S H x hn hs hx
  unfold a_ll at hx ⊢
  split at hx
  · rename_i v hg
    cases hx
    rw [lget_of_mem hn (hs _ (lget_mem hg))]
    exact ⟨L2, rfl, hs, hn⟩
  · cases hx
theorem lm_ld_a_al {i nx : Nat} : LMono (a_al i nx) := by
  intro L L2 S H x hn hs hx
  unfold a_al at hx ⊢
  split at hx
  · rename_i v hg
    cases hx
    rw [lget_of_mem hn (hs _ (lget_mem hg))]
    exact ⟨L2, rfl, hs, hn⟩
  · cases hx
theorem s_iload_n {q : Fin 4} {i : Nat} (hi : (q : Nat) = i) {cc : ByteArray} {nL : Nat} {own nm : String} {pc : Nat} (d : decode cc pc = .ok (.iload_n q, 1)) : Okf cc nL own nm pc (a_il i (pc + 1)) := by
  refine ⟨lm_ld_a_il, fun L S H x hx => ?_, ?_⟩
  · unfold a_il at hx
    split at hx
    · cases hx; exact ⟨Nat.le_refl _, Nat.le_refl _⟩
    · cases hx
  · intro D cy z st sl sx n0 s0 p l e R s m args below meth c Q C L S H x hx h1 h2 h3 h4 k
    unfold a_il at hx
    split at hx
    · rename_i hg
      cases hx
      intro Hp locs ls hs hS hl
      exact lv_iload_n C.1 C.2.1 d hi (lvg hl hg) (k Hp locs ls hs hS hl)
    · cases hx
theorem s_iload {i : Nat} {cc : ByteArray} {nL : Nat} {own nm : String} {pc : Nat} (d : decode cc pc = .ok (.iload i, 2)) : Okf cc nL own nm pc (a_il i (pc + 2)) := by
  refine ⟨lm_ld_a_il, fun L S H x hx => ?_, ?_⟩
  · unfold a_il at hx
    split at hx
    · cases hx; exact ⟨Nat.le_refl _, Nat.le_refl _⟩
    · cases hx
  · intro D cy z st sl sx n0 s0 p l e R s m args below meth c Q C L S H x hx h1 h2 h3 h4 k
    unfold a_il at hx
    split at hx
    · rename_i hg
      cases hx
      intro Hp locs ls hs hS hl
      exact lv_iload C.1 C.2.1 d (lvg hl hg) (k Hp locs ls hs hS hl)
    · cases hx
theorem s_lload_n {q : Fin 4} {i : Nat} (hi : (q : Nat) = i) {cc : ByteArray} {nL : Nat} {own nm : String} {pc : Nat} (d : decode cc pc = .ok (.lload_n q, 1)) : Okf cc nL own nm pc (a_ll i (pc + 1)) := by
  refine ⟨lm_ld_a_ll, fun L S H x hx => ?_, ?_⟩
  · unfold a_ll at hx
    split at hx
    · cases hx; exact ⟨Nat.le_refl _, Nat.le_refl _⟩
    · cases hx
  · intro D cy z st sl sx n0 s0 p l e R s m args below meth c Q C L S H x hx h1 h2 h3 h4 k
    unfold a_ll at hx
    split at hx
    · rename_i hg
      cases hx
      intro Hp locs ls hs hS hl
      exact lv_lload_n C.1 C.2.1 d hi (lvg hl hg) (k Hp locs ls hs hS hl)
    · cases hx
theorem s_lload {i : Nat} {cc : ByteArray} {nL : Nat} {own nm : String} {pc : Nat} (d : decode cc pc = .ok (.lload i, 2)) : Okf cc nL own nm pc (a_ll i (pc + 2)) := by
  refine ⟨lm_ld_a_ll, fun L S H x hx => ?_, ?_⟩
  · unfold a_ll at hx
    split at hx
    · cases hx; exact ⟨Nat.le_refl _, Nat.le_refl _⟩
    · cases hx
  · intro D cy z st sl sx n0 s0 p l e R s m args below meth c Q C L S H x hx h1 h2 h3 h4 k
    unfold a_ll at hx
    split at hx
    · rename_i hg
      cases hx
      intro Hp locs ls hs hS hl
      exact lv_lload C.1 C.2.1 d (lvg hl hg) (k Hp locs ls hs hS hl)
    · cases hx
theorem s_aload_n {q : Fin 4} {i : Nat} (hi : (q : Nat) = i) {cc : ByteArray} {nL : Nat} {own nm : String} {pc : Nat} (d : decode cc pc = .ok (.aload_n q, 1)) : Okf cc nL own nm pc (a_al i (pc + 1)) := by
  refine ⟨lm_ld_a_al, fun L S H x hx => ?_, ?_⟩
  · unfold a_al at hx
    split at hx
    · cases hx; exact ⟨Nat.le_refl _, Nat.le_refl _⟩
    · cases hx
  · intro D cy z st sl sx n0 s0 p l e R s m args below meth c Q C L S H x hx h1 h2 h3 h4 k
    unfold a_al at hx
    split at hx
    · rename_i hg
      cases hx
      intro Hp locs ls hs hS hl
      exact lv_aload_n C.1 C.2.1 d hi (lvg hl hg) (k Hp locs ls hs hS hl)
    · cases hx
theorem s_aload {i : Nat} {cc : ByteArray} {nL : Nat} {own nm : String} {pc : Nat} (d : decode cc pc = .ok (.aload i, 2)) : Okf cc nL own nm pc (a_al i (pc + 2)) := by
  refine ⟨lm_ld_a_al, fun L S H x hx => ?_, ?_⟩
  · unfold a_al at hx
    split at hx
    · cases hx; exact ⟨Nat.le_refl _, Nat.le_refl _⟩
    · cases hx
  · intro D cy z st sl sx n0 s0 p l e R s m args below meth c Q C L S H x hx h1 h2 h3 h4 k
    unfold a_al at hx
    split at hx
    · rename_i hg
      cases hx
      intro Hp locs ls hs hS hl
      exact lv_aload C.1 C.2.1 d (lvg hl hg) (k Hp locs ls hs hS hl)
    · cases hx
def a_is (i nx : Nat) : aF := fun L S H => match S with
  | .int x :: S => some (nx, lset1 L i (.int x), S, H)
  | _ => none
def a_lst (i nx : Nat) : aF := fun L S H => match S with
  | .long x :: S => some (nx, lset2 L i (.long x), S, H)
  | _ => none
def a_as (i nx : Nat) : aF := fun L S H => match S with
  | .ref x :: S => some (nx, lset1 L i (.ref x), S, H)
  | _ => none
theorem lm_st_a_is {i nx : Nat} : LMono (a_is i nx) := by
  intro L L2 S H x hn hs hx
  unfold a_is at hx ⊢
  split at hx
  · cases hx
    exact ⟨_, rfl, (lset1_sub hn hs).1, (lset1_sub hn hs).2⟩
  · cases hx
theorem lm_st_a_lst {i nx : Nat} : LMono (a_lst i nx) := by
  intro L L2 S H x hn hs hx
  unfold a_lst at hx ⊢
  split at hx
  · cases hx
    exact ⟨_, rfl, (lset2_sub hn hs).1, (lset2_sub hn hs).2⟩
  · cases hx
theorem lm_st_a_as {i nx : Nat} : LMono (a_as i nx) := by
  intro L L2 S H x hn hs hx
  unfold a_as at hx ⊢
  split at hx
  · cases hx
    exact ⟨_, rfl, (lset1_sub hn hs).1, (lset1_sub hn hs).2⟩
  · cases hx
theorem s_istore_n {q : Fin 4} {i : Nat} (hi : (q : Nat) = i) {cc : ByteArray} {nL : Nat} {own nm : String} {pc : Nat} (d : decode cc pc = .ok (.istore_n q, 1)) (hn : i < nL) : Okf cc nL own nm pc (a_is i (pc + 1)) := by
  refine ⟨lm_st_a_is, fun L S H x hx => ?_, ?_⟩
  · unfold a_is at hx
    split at hx
    · cases hx; exact ⟨Nat.le_refl _, Nat.le_refl _⟩
    · cases hx
  · intro D cy z st sl sx n0 s0 p l e R s m args below meth c Q C L S H x hx h1 h2 h3 h4 k
    unfold a_is at hx
    split at hx
    · rename_i y S1
      cases hx
      intro Hp locs ls hs hS hl
      exact lv_istore_n C.1 C.2.1 d hi hl hn rfl (fun ls hl => k Hp locs ls hs hS (lv_mem hl (cvL_set1 z st L i (.int y))))
    · cases hx
theorem s_istore {i : Nat} {cc : ByteArray} {nL : Nat} {own nm : String} {pc : Nat} (d : decode cc pc = .ok (.istore i, 2)) (hn : i < nL) : Okf cc nL own nm pc (a_is i (pc + 2)) := by
  refine ⟨lm_st_a_is, fun L S H x hx => ?_, ?_⟩
  · unfold a_is at hx
    split at hx
    · cases hx; exact ⟨Nat.le_refl _, Nat.le_refl _⟩
    · cases hx
  · intro D cy z st sl sx n0 s0 p l e R s m args below meth c Q C L S H x hx h1 h2 h3 h4 k
    unfold a_is at hx
    split at hx
    · rename_i y S1
      cases hx
      intro Hp locs ls hs hS hl
      exact lv_istore C.1 C.2.1 d hl hn rfl (fun ls hl => k Hp locs ls hs hS (lv_mem hl (cvL_set1 z st L i (.int y))))
    · cases hx
theorem s_lstore_n {q : Fin 4} {i : Nat} (hi : (q : Nat) = i) {cc : ByteArray} {nL : Nat} {own nm : String} {pc : Nat} (d : decode cc pc = .ok (.lstore_n q, 1)) (hn : i + 1 < nL) : Okf cc nL own nm pc (a_lst i (pc + 1)) := by
  refine ⟨lm_st_a_lst, fun L S H x hx => ?_, ?_⟩
  · unfold a_lst at hx
    split at hx
    · cases hx; exact ⟨Nat.le_refl _, Nat.le_refl _⟩
    · cases hx
  · intro D cy z st sl sx n0 s0 p l e R s m args below meth c Q C L S H x hx h1 h2 h3 h4 k
    unfold a_lst at hx
    split at hx
    · rename_i y S1
      cases hx
      intro Hp locs ls hs hS hl
      exact lv_lstore_n C.1 C.2.1 d hi hl hn rfl (fun ls hl => k Hp locs ls hs hS (lv_mem hl (cvL_set2 z st L i (.long y))))
    · cases hx
theorem s_lstore {i : Nat} {cc : ByteArray} {nL : Nat} {own nm : String} {pc : Nat} (d : decode cc pc = .ok (.lstore i, 2)) (hn : i + 1 < nL) : Okf cc nL own nm pc (a_lst i (pc + 2)) := by
  refine ⟨lm_st_a_lst, fun L S H x hx => ?_, ?_⟩
  · unfold a_lst at hx
    split at hx
    · cases hx; exact ⟨Nat.le_refl _, Nat.le_refl _⟩
    · cases hx
  · intro D cy z st sl sx n0 s0 p l e R s m args below meth c Q C L S H x hx h1 h2 h3 h4 k
    unfold a_lst at hx
    split at hx
    · rename_i y S1
      cases hx
      intro Hp locs ls hs hS hl
      exact lv_lstore C.1 C.2.1 d hl hn rfl (fun ls hl => k Hp locs ls hs hS (lv_mem hl (cvL_set2 z st L i (.long y))))
    · cases hx
theorem s_astore_n {q : Fin 4} {i : Nat} (hi : (q : Nat) = i) {cc : ByteArray} {nL : Nat} {own nm : String} {pc : Nat} (d : decode cc pc = .ok (.astore_n q, 1)) (hn : i < nL) : Okf cc nL own nm pc (a_as i (pc + 1)) := by
  refine ⟨lm_st_a_as, fun L S H x hx => ?_, ?_⟩
  · unfold a_as at hx
    split at hx
    · cases hx; exact ⟨Nat.le_refl _, Nat.le_refl _⟩
    · cases hx
  · intro D cy z st sl sx n0 s0 p l e R s m args below meth c Q C L S H x hx h1 h2 h3 h4 k
    unfold a_as at hx
    split at hx
    · rename_i y S1
      cases hx
      intro Hp locs ls hs hS hl
      exact lv_astore_n C.1 C.2.1 d hi hl hn rfl (fun ls hl => k Hp locs ls hs hS (lv_mem hl (cvL_set1 z st L i (.ref y))))
    · cases hx
theorem s_astore {i : Nat} {cc : ByteArray} {nL : Nat} {own nm : String} {pc : Nat} (d : decode cc pc = .ok (.astore i, 2)) (hn : i < nL) : Okf cc nL own nm pc (a_as i (pc + 2)) := by
  refine ⟨lm_st_a_as, fun L S H x hx => ?_, ?_⟩
  · unfold a_as at hx
    split at hx
    · cases hx; exact ⟨Nat.le_refl _, Nat.le_refl _⟩
    · cases hx
  · intro D cy z st sl sx n0 s0 p l e R s m args below meth c Q C L S H x hx h1 h2 h3 h4 k
    unfold a_as at hx
    split at hx
    · rename_i y S1
      cases hx
      intro Hp locs ls hs hS hl
      exact lv_astore C.1 C.2.1 d hl hn rfl (fun ls hl => k Hp locs ls hs hS (lv_mem hl (cvL_set1 z st L i (.ref y))))
    · cases hx
def a_inc (i : Nat) (n : Int32) (nx : Nat) : aF := fun L S H => match lget L i with
  | some (.int x) => some (nx, lset1 L i (.int (x + n)), S, H)
  | _ => none
theorem lm_st_a_inc {i : Nat} {n : Int32} {nx : Nat} : LMono (a_inc i n nx) := by
  intro L L2 S H x hn hs hx
  unfold a_inc at hx ⊢
  split at hx
  · rename_i v hg
    cases hx
    rw [lget_of_mem hn (hs _ (lget_mem hg))]
    exact ⟨_, rfl, (lset1_sub hn hs).1, (lset1_sub hn hs).2⟩
  · cases hx
theorem s_iinc {i : Nat} {n : Int} {n2 : Int32} (hv : Int32.ofInt n = n2) {cc : ByteArray} {nL : Nat} {own nm : String} {pc : Nat} (d : decode cc pc = .ok (.iinc i n, 3)) (hn : i < nL) : Okf cc nL own nm pc (a_inc i n2 (pc + 3)) := by
  subst hv
  refine ⟨lm_st_a_inc, fun L S H x hx => ?_, ?_⟩
  · unfold a_inc at hx
    split at hx
    · cases hx; exact ⟨Nat.le_refl _, Nat.le_refl _⟩
    · cases hx
  · intro D cy z st sl sx n0 s0 p l e R s m args below meth c Q C L S H x hx h1 h2 h3 h4 k
    unfold a_inc at hx
    split at hx
    · rename_i y hg
      cases hx
      intro Hp locs ls hs hS hl
      obtain ⟨q, hq⟩ := List.getElem?_of_mem (show (i, Value.int y) ∈ cvL z st L from List.mem_map.mpr ⟨(i, .int y), lget_mem hg, rfl⟩)
      exact lv_iinc C.1 C.2.1 d hl (k := q) hq rfl hn rfl (fun ls hl => k Hp locs ls hs hS (lv_mem hl (cvL_set1 z st L i (.int (y + Int32.ofInt n)))))
    · cases hx
def a_if (c : Int32 → Prop) [DecidablePred c] (tgt nx : Nat) : aF := fun L S H => match S with
  | .int x :: S => some (if c x then tgt else nx, L, S, H)
  | _ => none
def a_ic2 (c : Int32 → Int32 → Prop) [h : ∀ x y, Decidable (c x y)] (tgt nx : Nat) : aF := fun L S H => match S with
  | .int y :: .int x :: S => some (if c x y then tgt else nx, L, S, H)
  | _ => none
theorem s_if_eq {off : Int} {tgt : Nat} {cc : ByteArray} {nL : Nat} {own nm : String} {pc : Nat} (d : decode cc pc = .ok (.ifCond .eq off, 3)) (ht : (pc : Int) + off = (tgt : Int)) : Okf cc nL own nm pc (a_if (fun x => x = 0) tgt (pc + 3)) := by
  refine ⟨lm_in (by intro L L2 S H; unfold a_if; (repeat' split) <;> first | rfl | simp_all) (by intro L S H x hx; unfold a_if at hx; (repeat' split at hx) <;> first | (cases hx; rfl) | cases hx), fun L S H x hx => ?_, ?_⟩
  · unfold a_if at hx
    split at hx
    · cases hx; exact ⟨Nat.le_refl _, Nat.le_refl _⟩
    · cases hx
  · intro D cy z st sl sx n0 s0 p l e R s m args below meth c Q C L S H x hx h1 h2 h3 h4 k
    unfold a_if at hx
    split at hx
    · cases hx
      intro Hp locs ls hs hS hl
      refine lv_if_eq C.1 C.2.1 d ht (fun hc => ?_) (fun hc => ?_)
      · have k1 := k Hp locs ls hs hS hl
        dsimp only at k1
        rw [if_pos hc] at k1
        exact k1
      · have k1 := k Hp locs ls hs hS hl
        dsimp only at k1
        rw [if_neg hc] at k1
        exact k1
    · cases hx
theorem s_icmp_eq {off : Int} {tgt : Nat} {cc : ByteArray} {nL : Nat} {own nm : String} {pc : Nat} (d : decode cc pc = .ok (.if_icmp .eq off, 3)) (ht : (pc : Int) + off = (tgt : Int)) : Okf cc nL own nm pc (a_ic2 (fun x y => x = y) tgt (pc + 3)) := by
  refine ⟨lm_in (by intro L L2 S H; unfold a_ic2; (repeat' split) <;> first | rfl | simp_all) (by intro L S H x hx; unfold a_ic2 at hx; (repeat' split at hx) <;> first | (cases hx; rfl) | cases hx), fun L S H x hx => ?_, ?_⟩
  · unfold a_ic2 at hx
    split at hx
    · cases hx; exact ⟨Nat.le_refl _, Nat.le_refl _⟩
    · cases hx
  · intro D cy z st sl sx n0 s0 p l e R s m args below meth c Q C L S H x hx h1 h2 h3 h4 k
    unfold a_ic2 at hx
    split at hx
    · cases hx
      intro Hp locs ls hs hS hl
      refine lv_icmp_eq C.1 C.2.1 d ht (fun hc => ?_) (fun hc => ?_)
      · have k1 := k Hp locs ls hs hS hl
        dsimp only at k1
        rw [if_pos hc] at k1
        exact k1
      · have k1 := k Hp locs ls hs hS hl
        dsimp only at k1
        rw [if_neg hc] at k1
        exact k1
    · cases hx
theorem s_if_ne {off : Int} {tgt : Nat} {cc : ByteArray} {nL : Nat} {own nm : String} {pc : Nat} (d : decode cc pc = .ok (.ifCond .ne off, 3)) (ht : (pc : Int) + off = (tgt : Int)) : Okf cc nL own nm pc (a_if (fun x => ¬ x = 0) tgt (pc + 3)) := by
  refine ⟨lm_in (by intro L L2 S H; unfold a_if; (repeat' split) <;> first | rfl | simp_all) (by intro L S H x hx; unfold a_if at hx; (repeat' split at hx) <;> first | (cases hx; rfl) | cases hx), fun L S H x hx => ?_, ?_⟩
  · unfold a_if at hx
    split at hx
    · cases hx; exact ⟨Nat.le_refl _, Nat.le_refl _⟩
    · cases hx
  · intro D cy z st sl sx n0 s0 p l e R s m args below meth c Q C L S H x hx h1 h2 h3 h4 k
    unfold a_if at hx
    split at hx
    · cases hx
      intro Hp locs ls hs hS hl
      refine lv_if_ne C.1 C.2.1 d ht (fun hc => ?_) (fun hc => ?_)
      · have k1 := k Hp locs ls hs hS hl
        dsimp only at k1
        rw [if_pos hc] at k1
        exact k1
      · have k1 := k Hp locs ls hs hS hl
        dsimp only at k1
        rw [if_neg (not_not_intro hc)] at k1
        exact k1
    · cases hx
theorem s_icmp_ne {off : Int} {tgt : Nat} {cc : ByteArray} {nL : Nat} {own nm : String} {pc : Nat} (d : decode cc pc = .ok (.if_icmp .ne off, 3)) (ht : (pc : Int) + off = (tgt : Int)) : Okf cc nL own nm pc (a_ic2 (fun x y => ¬ x = y) tgt (pc + 3)) := by
  refine ⟨lm_in (by intro L L2 S H; unfold a_ic2; (repeat' split) <;> first | rfl | simp_all) (by intro L S H x hx; unfold a_ic2 at hx; (repeat' split at hx) <;> first | (cases hx; rfl) | cases hx), fun L S H x hx => ?_, ?_⟩
  · unfold a_ic2 at hx
    split at hx
    · cases hx; exact ⟨Nat.le_refl _, Nat.le_refl _⟩
    · cases hx
  · intro D cy z st sl sx n0 s0 p l e R s m args below meth c Q C L S H x hx h1 h2 h3 h4 k
    unfold a_ic2 at hx
    split at hx
    · cases hx
      intro Hp locs ls hs hS hl
      refine lv_icmp_ne C.1 C.2.1 d ht (fun hc => ?_) (fun hc => ?_)
      · have k1 := k Hp locs ls hs hS hl
        dsimp only at k1
        rw [if_pos hc] at k1
        exact k1
      · have k1 := k Hp locs ls hs hS hl
        dsimp only at k1
        rw [if_neg (not_not_intro hc)] at k1
        exact k1
    · cases hx
theorem s_if_lt {off : Int} {tgt : Nat} {cc : ByteArray} {nL : Nat} {own nm : String} {pc : Nat} (d : decode cc pc = .ok (.ifCond .lt off, 3)) (ht : (pc : Int) + off = (tgt : Int)) : Okf cc nL own nm pc (a_if (fun x => x < 0) tgt (pc + 3)) := by
  refine ⟨lm_in (by intro L L2 S H; unfold a_if; (repeat' split) <;> first | rfl | simp_all) (by intro L S H x hx; unfold a_if at hx; (repeat' split at hx) <;> first | (cases hx; rfl) | cases hx), fun L S H x hx => ?_, ?_⟩
  · unfold a_if at hx
    split at hx
    · cases hx; exact ⟨Nat.le_refl _, Nat.le_refl _⟩
    · cases hx
  · intro D cy z st sl sx n0 s0 p l e R s m args below meth c Q C L S H x hx h1 h2 h3 h4 k
    unfold a_if at hx
    split at hx
    · cases hx
      intro Hp locs ls hs hS hl
      refine lv_if_lt C.1 C.2.1 d ht (fun hc => ?_) (fun hc => ?_)
      · have k1 := k Hp locs ls hs hS hl
        dsimp only at k1
        rw [if_pos hc] at k1
        exact k1
      · have k1 := k Hp locs ls hs hS hl
        dsimp only at k1
        rw [if_neg hc] at k1
        exact k1
    · cases hx
theorem s_icmp_lt {off : Int} {tgt : Nat} {cc : ByteArray} {nL : Nat} {own nm : String} {pc : Nat} (d : decode cc pc = .ok (.if_icmp .lt off, 3)) (ht : (pc : Int) + off = (tgt : Int)) : Okf cc nL own nm pc (a_ic2 (fun x y => x < y) tgt (pc + 3)) := by
  refine ⟨lm_in (by intro L L2 S H; unfold a_ic2; (repeat' split) <;> first | rfl | simp_all) (by intro L S H x hx; unfold a_ic2 at hx; (repeat' split at hx) <;> first | (cases hx; rfl) | cases hx), fun L S H x hx => ?_, ?_⟩
  · unfold a_ic2 at hx
    split at hx
    · cases hx; exact ⟨Nat.le_refl _, Nat.le_refl _⟩
    · cases hx
  · intro D cy z st sl sx n0 s0 p l e R s m args below meth c Q C L S H x hx h1 h2 h3 h4 k
    unfold a_ic2 at hx
    split at hx
    · cases hx
      intro Hp locs ls hs hS hl
      refine lv_icmp_lt C.1 C.2.1 d ht (fun hc => ?_) (fun hc => ?_)
      · have k1 := k Hp locs ls hs hS hl
        dsimp only at k1
        rw [if_pos hc] at k1
        exact k1
      · have k1 := k Hp locs ls hs hS hl
        dsimp only at k1
        rw [if_neg hc] at k1
        exact k1
    · cases hx
theorem s_if_ge {off : Int} {tgt : Nat} {cc : ByteArray} {nL : Nat} {own nm : String} {pc : Nat} (d : decode cc pc = .ok (.ifCond .ge off, 3)) (ht : (pc : Int) + off = (tgt : Int)) : Okf cc nL own nm pc (a_if (fun x => 0 ≤ x) tgt (pc + 3)) := by
  refine ⟨lm_in (by intro L L2 S H; unfold a_if; (repeat' split) <;> first | rfl | simp_all) (by intro L S H x hx; unfold a_if at hx; (repeat' split at hx) <;> first | (cases hx; rfl) | cases hx), fun L S H x hx => ?_, ?_⟩
  · unfold a_if at hx
    split at hx
    · cases hx; exact ⟨Nat.le_refl _, Nat.le_refl _⟩
    · cases hx
  · intro D cy z st sl sx n0 s0 p l e R s m args below meth c Q C L S H x hx h1 h2 h3 h4 k
    unfold a_if at hx
    split at hx
    · cases hx
      intro Hp locs ls hs hS hl
      refine lv_if_ge C.1 C.2.1 d ht (fun hc => ?_) (fun hc => ?_)
      · have k1 := k Hp locs ls hs hS hl
        dsimp only at k1
        rw [if_pos hc] at k1
        exact k1
      · have k1 := k Hp locs ls hs hS hl
        dsimp only at k1
        rw [if_neg hc] at k1
        exact k1
    · cases hx
theorem s_icmp_ge {off : Int} {tgt : Nat} {cc : ByteArray} {nL : Nat} {own nm : String} {pc : Nat} (d : decode cc pc = .ok (.if_icmp .ge off, 3)) (ht : (pc : Int) + off = (tgt : Int)) : Okf cc nL own nm pc (a_ic2 (fun x y => y ≤ x) tgt (pc + 3)) := by
  refine ⟨lm_in (by intro L L2 S H; unfold a_ic2; (repeat' split) <;> first | rfl | simp_all) (by intro L S H x hx; unfold a_ic2 at hx; (repeat' split at hx) <;> first | (cases hx; rfl) | cases hx), fun L S H x hx => ?_, ?_⟩
  · unfold a_ic2 at hx
    split at hx
    · cases hx; exact ⟨Nat.le_refl _, Nat.le_refl _⟩
    · cases hx
  · intro D cy z st sl sx n0 s0 p l e R s m args below meth c Q C L S H x hx h1 h2 h3 h4 k
    unfold a_ic2 at hx
    split at hx
    · cases hx
      intro Hp locs ls hs hS hl
      refine lv_icmp_ge C.1 C.2.1 d ht (fun hc => ?_) (fun hc => ?_)
      · have k1 := k Hp locs ls hs hS hl
        dsimp only at k1
        rw [if_pos hc] at k1
        exact k1
      · have k1 := k Hp locs ls hs hS hl
        dsimp only at k1
        rw [if_neg hc] at k1
        exact k1
    · cases hx
theorem s_if_gt {off : Int} {tgt : Nat} {cc : ByteArray} {nL : Nat} {own nm : String} {pc : Nat} (d : decode cc pc = .ok (.ifCond .gt off, 3)) (ht : (pc : Int) + off = (tgt : Int)) : Okf cc nL own nm pc (a_if (fun x => 0 < x) tgt (pc + 3)) := by
  refine ⟨lm_in (by intro L L2 S H; unfold a_if; (repeat' split) <;> first | rfl | simp_all) (by intro L S H x hx; unfold a_if at hx; (repeat' split at hx) <;> first | (cases hx; rfl) | cases hx), fun L S H x hx => ?_, ?_⟩
  · unfold a_if at hx
    split at hx
    · cases hx; exact ⟨Nat.le_refl _, Nat.le_refl _⟩
    · cases hx
  · intro D cy z st sl sx n0 s0 p l e R s m args below meth c Q C L S H x hx h1 h2 h3 h4 k
    unfold a_if at hx
    split at hx
    · cases hx
      intro Hp locs ls hs hS hl
      refine lv_if_gt C.1 C.2.1 d ht (fun hc => ?_) (fun hc => ?_)
      · have k1 := k Hp locs ls hs hS hl
        dsimp only at k1
        rw [if_pos hc] at k1
        exact k1
      · have k1 := k Hp locs ls hs hS hl
        dsimp only at k1
        rw [if_neg hc] at k1
        exact k1
    · cases hx
theorem s_icmp_gt {off : Int} {tgt : Nat} {cc : ByteArray} {nL : Nat} {own nm : String} {pc : Nat} (d : decode cc pc = .ok (.if_icmp .gt off, 3)) (ht : (pc : Int) + off = (tgt : Int)) : Okf cc nL own nm pc (a_ic2 (fun x y => y < x) tgt (pc + 3)) := by
  refine ⟨lm_in (by intro L L2 S H; unfold a_ic2; (repeat' split) <;> first | rfl | simp_all) (by intro L S H x hx; unfold a_ic2 at hx; (repeat' split at hx) <;> first | (cases hx; rfl) | cases hx), fun L S H x hx => ?_, ?_⟩
  · unfold a_ic2 at hx
    split at hx
    · cases hx; exact ⟨Nat.le_refl _, Nat.le_refl _⟩
    · cases hx
  · intro D cy z st sl sx n0 s0 p l e R s m args below meth c Q C L S H x hx h1 h2 h3 h4 k
    unfold a_ic2 at hx
    split at hx
    · cases hx
      intro Hp locs ls hs hS hl
      refine lv_icmp_gt C.1 C.2.1 d ht (fun hc => ?_) (fun hc => ?_)
      · have k1 := k Hp locs ls hs hS hl
        dsimp only at k1
        rw [if_pos hc] at k1
        exact k1
      · have k1 := k Hp locs ls hs hS hl
        dsimp only at k1
        rw [if_neg hc] at k1
        exact k1
    · cases hx
theorem s_if_le {off : Int} {tgt : Nat} {cc : ByteArray} {nL : Nat} {own nm : String} {pc : Nat} (d : decode cc pc = .ok (.ifCond .le off, 3)) (ht : (pc : Int) + off = (tgt : Int)) : Okf cc nL own nm pc (a_if (fun x => x ≤ 0) tgt (pc + 3)) := by
  refine ⟨lm_in (by intro L L2 S H; unfold a_if; (repeat' split) <;> first | rfl | simp_all) (by intro L S H x hx; unfold a_if at hx; (repeat' split at hx) <;> first | (cases hx; rfl) | cases hx), fun L S H x hx => ?_, ?_⟩
  · unfold a_if at hx
    split at hx
    · cases hx; exact ⟨Nat.le_refl _, Nat.le_refl _⟩
    · cases hx
  · intro D cy z st sl sx n0 s0 p l e R s m args below meth c Q C L S H x hx h1 h2 h3 h4 k
    unfold a_if at hx
    split at hx
    · cases hx
      intro Hp locs ls hs hS hl
      refine lv_if_le C.1 C.2.1 d ht (fun hc => ?_) (fun hc => ?_)
      · have k1 := k Hp locs ls hs hS hl
        dsimp only at k1
        rw [if_pos hc] at k1
        exact k1
      · have k1 := k Hp locs ls hs hS hl
        dsimp only at k1
        rw [if_neg hc] at k1
        exact k1
    · cases hx
theorem s_icmp_le {off : Int} {tgt : Nat} {cc : ByteArray} {nL : Nat} {own nm : String} {pc : Nat} (d : decode cc pc = .ok (.if_icmp .le off, 3)) (ht : (pc : Int) + off = (tgt : Int)) : Okf cc nL own nm pc (a_ic2 (fun x y => x ≤ y) tgt (pc + 3)) := by
  refine ⟨lm_in (by intro L L2 S H; unfold a_ic2; (repeat' split) <;> first | rfl | simp_all) (by intro L S H x hx; unfold a_ic2 at hx; (repeat' split at hx) <;> first | (cases hx; rfl) | cases hx), fun L S H x hx => ?_, ?_⟩
  · unfold a_ic2 at hx
    split at hx
    · cases hx; exact ⟨Nat.le_refl _, Nat.le_refl _⟩
    · cases hx
  · intro D cy z st sl sx n0 s0 p l e R s m args below meth c Q C L S H x hx h1 h2 h3 h4 k
    unfold a_ic2 at hx
    split at hx
    · cases hx
      intro Hp locs ls hs hS hl
      refine lv_icmp_le C.1 C.2.1 d ht (fun hc => ?_) (fun hc => ?_)
      · have k1 := k Hp locs ls hs hS hl
        dsimp only at k1
        rw [if_pos hc] at k1
        exact k1
      · have k1 := k Hp locs ls hs hS hl
        dsimp only at k1
        rw [if_neg hc] at k1
        exact k1
    · cases hx
