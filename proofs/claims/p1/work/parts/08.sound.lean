/-! WHAT RUNS ON THE ABSTRACT MACHINE RUNS ON THE MACHINE -/
def Rm (d mc ms : Nat) : Room := { frames := d, cells := mc, slots := ms, locals := 34 * d }
def Prc (D : va_G) (cy : Nat → ClassId) (z : Nat) (st sl : Nat → Nat) (sx : Nat → Nat → Int32) (vs : List Value) (H : aH) : Array Value → State → Prop := va_Pc (vs.map (cv z st)) (fun U => Sim D cy z st sl sx H U.heap ∧ aEnv D cy z st sl sx U)
def Pst (D : va_G) (cy : Nat → ClassId) (z : Nat) (st sl : Nat → Nat) (sx : Nat → Nat → Int32) (r : Option Value) (H : aH) : Array Value → State → Outcome → State → Prop := fun _ s0 oc t => oc = .returned (r.map (cv z st)) ∧ Sim D cy z st sl sx H t.heap ∧ va_F (aA z) s0 t
theorem aEnv.moved {D : va_G} {cy : Nat → ClassId} {z : Nat} {st sl : Nat → Nat} {sx : Nat → Nat → Int32} {u U : State} (h : aEnv D cy z st sl sx u) (hvm : u.vm.Alike U.vm) (hN : ∀ w ∈ NW, va_Nw w u → va_Nw w U) (hk : ∀ q, q < u.heap.size → ¬ aA z q → U.heap[q]? = u.heap[q]?) : aEnv D cy z st sl sx U :=
  ⟨va_K.moved hvm h.1, fun j hj => va_T.moved hvm ((h.2.1 j hj).kept hk), fun j hj => va_Z.moved hvm ((h.2.2.1 j hj).kept hk), fun w hw => hN w hw (h.2.2.2 w hw)⟩
theorem NW_warm {s U : State} (hW : s.WarmedH U.vm) : ∀ w ∈ NW, va_Nw w s → va_Nw w U := by
  intro w hw h
  have h1 := (List.mem_filter.mp hw).2
  cases w with
  | fieldLinkNest a i b n d x => exact va_Nw.warmF hW h
  | methodLinkNest a i x y => exact va_Nw.warmM hW h
  | _ => cases h1
theorem NW_same {s U : State} (hv : s.vm = U.vm) : ∀ w ∈ NW, va_Nw w s → va_Nw w U := by
  intro w hw h
  have h1 := (List.mem_filter.mp hw).2
  cases w with
  | fieldLinkNest a i b n d x => exact va_Nw.same rfl hv h
  | methodLinkNest a i x y => exact va_Nw.same rfl hv h
  | _ => cases h1
theorem Prc_blind {D : va_G} {cy : Nat → ClassId} {z : Nat} {st sl : Nat → Nat} {sx : Nat → Nat → Int32} {vs : List Value} {H : aH} : FrameBlind (Prc D cy z st sl sx vs H) := by
  intro a U g mk h
  exact ⟨h.1, h.2.1, h.2.2.moved (U := U.calling g mk a) (Vm.Alike.refl U.vm) (NW_same rfl) (fun _ _ _ => rfl)⟩
theorem TBg_good {w : Cond} (h : w ∈ TBg) : goodWord w = true := (List.mem_filter.mp h).2
theorem TBg_in {b : Cond} (hb : b ∈ TBg) : GoodIn TBg (b :: TBg) := by
  intro w hw
  rcases List.mem_cons.mp hw with rfl | h
  · exact ⟨hb, good_of_word (TBg_good hb)⟩
  · exact ⟨h, good_of_word (TBg_good h)⟩
theorem lg_len : ∀ vs : List Value, (lg_sl vs).length = (vs.map Value.category).sum
  | [] => rfl
  | v :: vs => by
    have h := lg_len vs
    show (List.flatMap _ (v :: vs)).length = _
    rw [List.flatMap_cons, List.length_append, List.map_cons, List.sum_cons]
    rw [show (List.flatMap (fun v : Value => if v.category = 2 then [Slot.val v, .second] else [.val v]) vs).length = (vs.map Value.category).sum from h]
    rcases lv_cat v with e | e <;> simp [e]
theorem cat_cv {z : Nat} {st : Nat → Nat} (vs : List Value) : ((vs.map (cv z st)).map Value.category).sum = (vs.map Value.category).sum := by
  rw [List.map_map]
  congr 1
  apply List.map_congr_left
  intro v _
  exact cv_cat z st v
/-- a call, whatever it answers -/
theorem callW {p : Program} {l : Launch} {e : Env} {R : Room} {s : State} {m : MethodId} {args : Array Value} {below : List Frame} {meth : Method} {c : Code} {H : Heap} {locs : List Loc} {cells slots mc ms : Nat} {Q : State → Prop} {pc : Nat} {ls : Array Slot} {st0 rest : List Value} {Qa : State → Outcome → State → Prop} {free : Addr → Prop} (hr : va_Run p l e R s m args below meth c H locs cells slots mc ms (F0 m pc ls st0) rest Qa free)
    (kk : ∀ (v : Option Value) (s0 t : State) (L : List Loc), s0.heap = H → Qa s0 (.returned v) t → (∀ q ∈ L, free q.base) → W p l e R s m args below meth c t.heap (locs ++ L) (cells + mc) (slots + ms) Q (F0 m (pc + 3) ls (v.toList ++ rest))) : W p l e R s m args below meth c H locs cells slots Q (F0 m pc ls st0) := by
  intro T hT X
  obtain ⟨v, s0, t, T', L, h0, X', hL, e1, e2, hq, st⟩ := hr T hT X
  obtain ⟨t2, a1, b1⟩ := kk v s0 t L h0 hq hL T' e1 X'
  exact ⟨t2, st t2 a1, b1⟩
/-- how a call is made: its instruction and the words that it rests on (c: the receiver's class and 1, or 0) -/
def OkC (own : String) (cc : ByteArray) (pc : Nat) (y : MethodName) (bytes : ByteArray) (maxL : Nat) (ret : Option FieldType) (k c : Nat) : Prop :=
  Cond.code y bytes maxL ret ∈ TBg ∧ Cond.initialized y.cls ∈ TBg ∧ (y.cls ≠ "java/lang/invoke/MethodHandle" ∧ y.cls ≠ "java/lang/invoke/VarHandle") ∧ maxL ≤ 15 ∧
  ((∃ (i n : Nat), c = 0 ∧ k = n ∧ (parseMethodDescriptor y.desc).map (fun d => d.parameters.length) = some n ∧ decode cc pc = .ok (.invokestatic i, 3) ∧ Cond.static y ∈ TBg ∧ (Cond.methodLink own i y ∈ TBg ∨ ∃ host, Cond.methodLinkNest own i y host ∈ NW)) ∨
   (∃ (i n ci : Nat) (T : u_T) (N : Nat), c = ci + 1 ∧ k = n + 1 ∧ cls[ci]? = some (y.cls, T, N) ∧ (parseMethodDescriptor y.desc).map (fun d => d.parameters.length) = some n ∧ decode cc pc = .ok (.invokevirtual i, 3) ∧ Cond.instanceMethod y ∈ TBg ∧ Cond.selects y.cls y y ∈ TBg ∧ Cond.methodLink own i y ∈ TBg) ∨
   (∃ (i n ci : Nat), c = ci + 1 ∧ k = n + 1 ∧ ret = none ∧ y.name = "<init>" ∧ (parseMethodDescriptor y.desc).map (fun d => d.parameters.length) = some n ∧ decode cc pc = .ok (.invokespecial i, 3) ∧ Cond.instanceMethod y ∈ TBg ∧ (Cond.methodLink own i y ∈ TBg ∨ ∃ host, Cond.methodLinkNest own i y host ∈ NW)))
theorem rcv_inv {c : Nat} {vs : List Value} {H : aH} (h : rcv (c + 1) vs H = true) : ∃ a fs vs1, vs = .ref a :: vs1 ∧ a < H.1 ∧ H.2.2 a = .inr (c, fs) := by
  unfold rcv at h
  split at h
  · contradiction
  · rename_i c1 a vs1 hc
    cases hc
    rw [Bool.and_eq_true, decide_eq_true_eq] at h
    obtain ⟨h1, h2⟩ := h
    split at h2
    · rename_i o he
      have := eq_of_beq h2
      subst this
      exact ⟨a, o.2, vs1, rfl, h1, he⟩
    · cases h2
  · cases h
