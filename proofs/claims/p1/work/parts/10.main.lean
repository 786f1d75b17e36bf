/-- THE BODY: a run of the table from pc on is a walk of the machine -/
theorem body {mt : Nat → aT} {mN : Nat → MethodName} {mC : Nat → ByteArray} {mL : Nat → Nat} {mR : Nat → Option FieldType} (ha : AllOk mt mN mC mL mR) {y d : Nat} {D : va_G} {cy : Nat → ClassId} {z : Nat} {st sl : Nat → Nat} {sx : Nat → Nat → Int32} {n0 s0 : Nat} {p : Program} {l : Launch} {e : Env} {R : Room} {s : State} {m : MethodId} {args : Array Value} {below : List Frame} {meth : Method} {c : Code} (C : Cx (mC y) (mL y) (mN y).cls (mN y).name D cy z st sl sx p R s m args meth c) (hret : meth.sig.returnType = mR y) (hR : d + 1 ≤ R.frames ∧ 34 * (d + 1) ≤ R.locals)
    (ih : ∀ (y : Nat) (vs : List Value) (H : aH) (r : Option Value) (H' : aH), aM mt mL d y vs H r H' → Met l (mN y) (Cond.code (mN y) (mC y) (mL y) (mR y) :: TBg) (Rm d (H'.1 - H.1) (H'.2.1 - H.2.1)) (Prc D cy z st sl sx vs H) (Pst D cy z st sl sx r H') (H'.1 - H.1) (H'.2.1 - H.2.1) (aA z)) {r : Option Value} {H' : aH} (hc : H'.1 ≤ n0 + R.cells) (hs : H'.2.1 ≤ s0 + R.slots) :
    ∀ (n pc : Nat) (L : aL) (S : List Value) (H : aH), n0 ≤ H.1 → s0 ≤ H.2.1 → aX (mt y) (aM mt mL d) n pc L S H r H' → Wg D cy z st sl sx (mL y) n0 s0 p l e R s m args below meth c (MQ below (Pst D cy z st sl sx r H') args s (H'.1 - n0) (H'.2.1 - s0) (aA z)) pc L S H
  | 0, _, _, _, _, _, _, h => h.elim
  | n + 1, pc, L, S, H, h1, h2, h => by
    unfold aX at h
    split at h
    · exact h.elim
    · rename_i f hpc
      split at h
      · exact h.elim
      · rename_i x hx
        have ok := (ha y pc _ hpc).1
        have m1 := ok.2.1 L S H x hx
        have m2 := aX_mono (fun pc f hpc => (ha y pc _ hpc).1.2.1) (aM_mono ha d) n _ _ _ _ _ _ h
        exact ok.2.2 D cy z st sl sx n0 s0 p l e R s m args below meth c _ C L S H x hx h1 h2 (Nat.le_trans m2.1 hc) (Nat.le_trans m2.2 hs) (body ha C hret hR ih hc hs n _ _ _ _ (Nat.le_trans h1 m1.1) (Nat.le_trans h2 m1.2) h)
    · rename_i yk hpc
      obtain ⟨hk, h8, hrc, r1, H1, ho, hx⟩ := h
      have m1 := aM_mono ha d _ _ _ _ _ ho
      have m2 := aX_mono (fun pc f hpc => (ha y pc _ hpc).1.2.1) (aM_mono ha d) n _ _ _ _ _ _ hx
      exact callStep C (ha y pc _ hpc).1 hR (ih _ _ _ _ _ ho) m1 h1 h2 (Nat.le_trans m2.1 hc) (Nat.le_trans m2.2 hs) hk h8 hrc rfl (body ha C hret hR ih hc hs n _ _ _ _ (Nat.le_trans h1 m1.1) (Nat.le_trans h2 m1.2) hx)
    · rename_i k hpc
      obtain ⟨hk, rfl⟩ := h
      intro Hp locs ls hsim hS hl
      have hok := (ha y pc _ hpc).1
      have hlocks : meth.locks = false := C.2.2.2.2.2.2.2.1
      have hpost : ∀ (o : Option Value), o = r.map (cv z st) → ∀ t : State, t.heap = Hp → s.WarmedH t.vm → Pst D cy z st sl sx r H' args s (.returned o) t := fun o ho t ht _ => ⟨by rw [ho], by rw [ht]; exact hsim, hS.F ht⟩
      rcases hok with ⟨rfl, hr, d1⟩ | ⟨rfl, hr, d1⟩ | ⟨rfl, hr, d1⟩ | ⟨rfl, hr, d1⟩
      · rw [if_pos rfl] at hk
        obtain ⟨rfl, rfl⟩ := hk
        exact W.vret C.1 C.2.1 (hret.trans hr) (hpost _ rfl) hS.2.2 d1
      · rw [if_neg (by decide)] at hk
        obtain ⟨v, rfl, rfl, k1, -, -⟩ := hk
        obtain ⟨x, rfl⟩ := k1 rfl
        exact W.iret C.1 C.2.1 (hret.trans hr) (hpost _ rfl) hS.2.2 d1
      · rw [if_neg (by decide)] at hk
        obtain ⟨v, rfl, rfl, -, k1, -⟩ := hk
        obtain ⟨x, rfl⟩ := k1 rfl
        exact W.lret C.1 C.2.1 (hret.trans hr) (hpost _ rfl) hS.2.2 d1
      · rw [if_neg (by decide)] at hk
        obtain ⟨v, rfl, rfl, -, -, k1⟩ := hk
        rcases k1 rfl with rfl | rfl
        · exact W.zret C.1 C.2.1 (hret.trans hr) rfl (hpost _ rfl) hS.2.2 d1
        · exact W.zret C.1 C.2.1 (hret.trans hr) rfl (hpost _ rfl) hS.2.2 d1
/-- THE CONTRACT of every method out of its run on the abstract machine -/
theorem sound {mt : Nat → aT} {mN : Nat → MethodName} {mC : Nat → ByteArray} {mL : Nat → Nat} {mR : Nat → Option FieldType} (ha : AllOk mt mN mC mL mR) (l : Launch) (D : va_G) (cy : Nat → ClassId) (z : Nat) (st sl : Nat → Nat) (sx : Nat → Nat → Int32) : ∀ (d y : Nat) (vs : List Value) (H : aH) (r : Option Value) (H' : aH), aM mt mL d y vs H r H' → Met l (mN y) (Cond.code (mN y) (mC y) (mL y) (mR y) :: TBg) (Rm d (H'.1 - H.1) (H'.2.1 - H.2.1)) (Prc D cy z st sl sx vs H) (Pst D cy z st sl sx r H') (H'.1 - H.1) (H'.2.1 - H.2.1) (aA z)
  | 0, _, _, _, _, _, h => h.elim
  | d + 1, y, vs, H, r, H', h => by
    have hmono := aM_mono ha (d + 1) y vs H r H' h
    obtain ⟨hcat, n, hx⟩ := h
    have hpl : plainName (mN y).cls = true := by
      cases n with
      | zero => exact hx.elim
      | succ n =>
        unfold aX at hx
        split at hx
        · exact hx.elim
        · rename_i f hpc
          exact (ha y 0 _ hpc).2
        · rename_i f hpc
          exact (ha y 0 _ hpc).2
        · rename_i f hpc
          exact (ha y 0 _ hpc).2
    refine Met.ofW (cc := mC y) (maxL := mL y) (ret := mR y) hpl rfl ?_
    intro p e s m args below meth c s₁ B hml hv
    obtain ⟨rfl, hsim, henv⟩ := hv
    have hts := atoms_spec (ws := Cond.code (mN y) (mC y) (mL y) (mR y) :: TBg) B.pre
    have hl := lv_entry (vs.map (cv z st)) (n := mL y) (by rw [lg_len, cat_cv]; exact hcat)
    have C : Cx (mC y) (mL y) (mN y).cls (mN y).name D cy z st sl sx p (headSpec (Cond.code (mN y) (mC y) (mL y) (mR y) :: TBg) (Rm (d + 1) (H'.1 - H.1) (H'.2.1 - H.2.1))).room s m (vs.map (cv z st)).toArray meth c := ⟨B.exec, B.bytes, hml, findClass_of_methodNamed B.named, fun w hw => hts w (List.mem_cons_of_mem _ hw), henv, by rw [hsim.1]; exact Nat.le_add_right _ _, B.notSynchronized, (name_of_methodNamed B.named B.method).1, by show 1 ≤ d + 1; omega, by show 34 ≤ 34 * (d + 1); omega⟩
    have k := body (e := e) (below := below) ha C B.returns ⟨Nat.le_refl _, Nat.le_refl _⟩ (fun y vs H r H' h => sound ha l D cy z st sl sx d y vs H r H' h) (n0 := H.1) (s0 := H.2.1) (show H'.1 ≤ H.1 + (H'.1 - H.1) by omega) (show H'.2.1 ≤ H.2.1 + (H'.2.1 - H.2.1) by omega) n 0 _ _ H (Nat.le_refl _) (Nat.le_refl _) hx s.heap [] _ hsim va_S.rf (by rw [← cvL_args]; exact hl)
    rw [Nat.sub_self, Nat.sub_self] at k
    rw [lg_entry_eq]
    exact k
