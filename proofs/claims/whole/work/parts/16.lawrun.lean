/-! THE CLAIM OUT OF ONE WALK OF THE LAW'S BODY. Your part is whole_start (and what it stands on); all else here is the same for every law, but numbers. -/
def R_law : String := "StatePressLaw"
def lw_P (b : Addr) (xs : List Int32) (args : Array Value) (s : State) : Prop := args = #[.ref b] ∧ s.IntsAt b xs ∧ xs.length ≤ 2048 ∧ (Jvm.Cond.and given_1 narrow_1).before args s = true
def lw_Q (_ : Array Value) (s : State) (o : Outcome) (t : State) : Prop := o = .returned (some (.int 1)) ∧ Framed s o t [] 600000 7302250
def lw_Z (below : List Frame) (a : Array Value) (s : State) : State → Prop := fun t => ∃ o, t.status = .running ∧ Ended t below o ∧ lw_Q a s o t
/-- the law's own end, with 1 on the stack, nothing written that was there before, its room as the claim has it -/
theorem lw_ret {p : Program} {l : Launch} {e : Env} {s : State} {m : MethodId} {below : List Frame} {meth : Method} {c : Code} {b : Nat} (hx : p.tables.exec = Jvm.exec) (hb : c.code = code) (hr : meth.sig.returnType = ret) (hlocks : meth.locks = false) {pc : Nat} {H : Heap} {ls : Array Slot} (hdg : decode code pc = .ok (.ireturn, 1)) : W p l e room_1 s m #[Value.ref b] below meth c H [] 600000 7302250 (lw_Z below #[Value.ref b] s) (F0 m pc ls [.int 1]) := by
  intro T hT X
  obtain ⟨fs, hret, hrun, hended, hW, hframe⟩ := X.leave (v := some (.int 1)) (hlocks := hlocks) (fun h => by rw [hr] at h; cases h)
  have hmeth' : T.vm.method? m = some meth := X.method'
  refine ⟨T.setFrames fs, ?_, .returned (some (.int 1)), hrun, hended, rfl, ⟨_, rfl⟩, hW, hframe⟩
  jvm_step X.here [X.here.top, hx, hb, hdg, hmeth', hr, ret, narrow_b1]
  (try refine ⟨rfl, ?_⟩); (try refine ⟨rfl, ?_⟩)
  first | (intro acts; rw [hret _ acts rfl rfl rfl]) | rw [hret _ _ rfl rfl rfl]
  exact Steps.refl _
/-- what holds at the law's entry: the machine, the code, the tables' words (any of lw_tbl by 'hts w (by decide +kernel)'), the script of L ints xs at the cell b, what the Statement gives of the start (any of its parts by flat_of_before) -/
def lw_At (p : Program) (s : State) (m : MethodId) (meth : Method) (c : Code) (b L : Nat) (xs : Nat → Int32) : Prop :=
  p.tables.exec = Jvm.exec ∧ c.code = code ∧ meth.sig.returnType = ret ∧ c.maxLocals = 4 ∧ s.vm.findClass R_law = some m.cls ∧ (∀ w ∈ lw_tbl, w.before #[Value.ref b] s = true) ∧ va_X b L xs s s.heap ∧ b < s.heap.size ∧ meth.locks = false ∧ (Jvm.Cond.and given_1 narrow_1).before #[Value.ref b] s = true
/-- THE LAW'S BODY: a run of its table that answers 1 is a walk of the machine to the law's end -/
theorem bodyL {D : va_G} {cy : Nat → ClassId} {z : Nat} {st sl : Nat → Nat} {sx : Nat → Nat → Int32} {p : Program} {l : Launch} {e : Env} {s : State} {m : MethodId} {b : Nat} {below : List Frame} {meth : Method} {c : Code} (C : Cx cL_law 4 RL meth.name D cy z st sl sx p room_1 s m #[Value.ref b] meth c) (hz : z = s.heap.size) (hret : meth.sig.returnType = ret) {H' : aH} (hc : H'.1 ≤ 600000) (hs : H'.2.1 ≤ 7302250) :
    ∀ (n pc : Nat) (L : aL) (S : List Value) (H : aH), aX (lk tLaw) (mM 10) n pc L S H (some (.int 1)) H' → Wg D cy z st sl sx 4 0 0 p l e room_1 s m #[Value.ref b] below meth c (lw_Z below #[Value.ref b] s) pc L S H
  | 0, _, _, _, _, h => h.elim
  | n + 1, pc, L, S, H, h => by
    have hf : ∀ pc f, lk tLaw pc = some (.inl f) → Mono f := fun pc f hpc => (show Okf cL_law 4 RL meth.name pc f from kLaw meth.name (pc, .inl f) (lk_mem hpc)).2.1
    unfold aX at h
    split at h
    · exact h.elim
    · rename_i f hpc
      split at h
      · exact h.elim
      · rename_i x hx
        have ok : Okf cL_law 4 RL meth.name pc f := kLaw meth.name (pc, .inl f) (lk_mem hpc)
        have m2 := aX_mono hf (aM_mono allOk 10) n _ _ _ _ _ _ h
        exact ok.2.2 D cy z st sl sx 0 0 p l e room_1 s m _ below meth c _ C L S H x hx (Nat.zero_le _) (Nat.zero_le _) (by rw [Nat.zero_add]; exact Nat.le_trans m2.1 hc) (by rw [Nat.zero_add]; exact Nat.le_trans m2.2 hs) (bodyL C hz hret hc hs n _ _ _ _ h)
    · rename_i yk hpc
      obtain ⟨hk, h8, hrc, r1, H1, ho, hx⟩ := h
      have m1 := aM_mono allOk 10 _ _ _ _ _ ho
      have m2 := aX_mono hf (aM_mono allOk 10) n _ _ _ _ _ _ hx
      have okc : OkC RL cL_law pc (mN yk.1) (mC yk.1) (mL yk.1) (mR yk.1) yk.2.1 yk.2.2 := kLaw meth.name (pc, .inr (.inl yk)) (lk_mem hpc)
      exact callStep C okc (d := 10) ⟨by decide, by decide⟩ (sound allOk l D cy z st sl sx 10 _ _ _ _ _ ho) m1 (Nat.zero_le _) (Nat.zero_le _) (by rw [Nat.zero_add]; exact Nat.le_trans m2.1 hc) (by rw [Nat.zero_add]; exact Nat.le_trans m2.2 hs) hk h8 hrc rfl (bodyL C hz hret hc hs n _ _ _ _ hx)
    · rename_i k hpc
      obtain ⟨hk, rfl⟩ := h
      intro Hp locs ls hsim hS hl
      have hok : OkJ RL meth.name cL_law 4 (some .boolean) pc (.inr (.inr k)) := kLaw meth.name (pc, .inr (.inr k)) (lk_mem hpc)
      rcases hok with ⟨-, hr, -⟩ | ⟨-, hr, -⟩ | ⟨-, hr, -⟩ | ⟨rfl, -, d1⟩
      · cases hr
      · cases hr
      · cases hr
      · rw [if_neg (by decide)] at hk
        obtain ⟨v, rfl, hv, -⟩ := hk
        cases hv
        refine va_forget (fun q hq => by rw [← hz]; exact hS.2.2 q hq) ?_
        refine W.widen (k := 600000) (n := 7302250) (by omega) (by omega) ?_
        exact lw_ret C.1 C.2.1 hret C.2.2.2.2.2.2.2.1 d1
theorem arrOf {args : Array Value} {s : State} {ty : FieldType} (h : (Cond.arrayClass ty).before args s = true) (hp : ∀ (U : State) (cA : ClassId), U.vm.findClass ("[" ++ ty.toString) = some cA → va_RA U cA ty) : ∃ cA : ClassId, ArrOfT s cA ty ∧ va_RA s cA ty := by
  obtain ⟨cA, kA, comp, hfind, hk, hkind⟩ := Cond.arrayClass_spec h
  exact ⟨cA, fun n z => ⟨fun k h => (by cases h), kA, hk, comp, hkind⟩, hp s cA hfind⟩
def sEl (j i : Nat) : Cond := Cond.eq (Term.elem (Term.static "StatePress" (sNm j) "[I") (Term.int (Int32.ofNat i))) (Term.int ((sTab.getD j []).getD i 0))
def sArr (j : Nat) : Cond := Cond.arrayOf (Term.static "StatePress" (sNm j) "[I") .int
def sLn (j : Nat) : Cond := Cond.eq (Term.length (Term.static "StatePress" (sNm j) "[I")) (Term.int (Int32.ofNat (sTab.getD j []).length))
abbrev sFlat : List Cond := flatC (Jvm.Cond.and given_1 narrow_1)
set_option maxRecDepth 20000 in
theorem sIn_0 : ∀ c ∈ (sArr 0 :: sLn 0 :: (List.range 36).map (sEl 0)), c ∈ sFlat :=
  allc (a := sArr 0) (List.mem_of_getElem? (i := 83) rfl) <|
  allc (a := sLn 0) (List.mem_of_getElem? (i := 84) rfl) <|
  allc (a := sEl 0 0) (List.mem_of_getElem? (i := 85) rfl) <|
  allc (a := sEl 0 1) (List.mem_of_getElem? (i := 86) rfl) <|
  allc (a := sEl 0 2) (List.mem_of_getElem? (i := 87) rfl) <|
  allc (a := sEl 0 3) (List.mem_of_getElem? (i := 88) rfl) <|
  allc (a := sEl 0 4) (List.mem_of_getElem? (i := 89) rfl) <|
  allc (a := sEl 0 5) (List.mem_of_getElem? (i := 90) rfl) <|
  allc (a := sEl 0 6) (List.mem_of_getElem? (i := 91) rfl) <|
  allc (a := sEl 0 7) (List.mem_of_getElem? (i := 92) rfl) <|
  allc (a := sEl 0 8) (List.mem_of_getElem? (i := 93) rfl) <|
  allc (a := sEl 0 9) (List.mem_of_getElem? (i := 94) rfl) <|
  allc (a := sEl 0 10) (List.mem_of_getElem? (i := 95) rfl) <|
  allc (a := sEl 0 11) (List.mem_of_getElem? (i := 96) rfl) <|
  allc (a := sEl 0 12) (List.mem_of_getElem? (i := 97) rfl) <|
  allc (a := sEl 0 13) (List.mem_of_getElem? (i := 98) rfl) <|
  allc (a := sEl 0 14) (List.mem_of_getElem? (i := 99) rfl) <|
  allc (a := sEl 0 15) (List.mem_of_getElem? (i := 100) rfl) <|
  allc (a := sEl 0 16) (List.mem_of_getElem? (i := 101) rfl) <|
  allc (a := sEl 0 17) (List.mem_of_getElem? (i := 102) rfl) <|
  allc (a := sEl 0 18) (List.mem_of_getElem? (i := 103) rfl) <|
  allc (a := sEl 0 19) (List.mem_of_getElem? (i := 104) rfl) <|
  allc (a := sEl 0 20) (List.mem_of_getElem? (i := 105) rfl) <|
  allc (a := sEl 0 21) (List.mem_of_getElem? (i := 106) rfl) <|
  allc (a := sEl 0 22) (List.mem_of_getElem? (i := 107) rfl) <|
  allc (a := sEl 0 23) (List.mem_of_getElem? (i := 108) rfl) <|
  allc (a := sEl 0 24) (List.mem_of_getElem? (i := 109) rfl) <|
  allc (a := sEl 0 25) (List.mem_of_getElem? (i := 110) rfl) <|
  allc (a := sEl 0 26) (List.mem_of_getElem? (i := 111) rfl) <|
  allc (a := sEl 0 27) (List.mem_of_getElem? (i := 112) rfl) <|
  allc (a := sEl 0 28) (List.mem_of_getElem? (i := 113) rfl) <|
  allc (a := sEl 0 29) (List.mem_of_getElem? (i := 114) rfl) <|
  allc (a := sEl 0 30) (List.mem_of_getElem? (i := 115) rfl) <|
  allc (a := sEl 0 31) (List.mem_of_getElem? (i := 116) rfl) <|
  allc (a := sEl 0 32) (List.mem_of_getElem? (i := 117) rfl) <|
  allc (a := sEl 0 33) (List.mem_of_getElem? (i := 118) rfl) <|
  allc (a := sEl 0 34) (List.mem_of_getElem? (i := 119) rfl) <|
  allc (a := sEl 0 35) (List.mem_of_getElem? (i := 120) rfl) <|
  alln
set_option maxRecDepth 20000 in
theorem sIn_1 : ∀ c ∈ (sArr 1 :: sLn 1 :: (List.range 29).map (sEl 1)), c ∈ sFlat :=
  allc (a := sArr 1) (List.mem_of_getElem? (i := 162) rfl) <|
  allc (a := sLn 1) (List.mem_of_getElem? (i := 163) rfl) <|
  allc (a := sEl 1 0) (List.mem_of_getElem? (i := 164) rfl) <|
  allc (a := sEl 1 1) (List.mem_of_getElem? (i := 165) rfl) <|
  allc (a := sEl 1 2) (List.mem_of_getElem? (i := 166) rfl) <|
  allc (a := sEl 1 3) (List.mem_of_getElem? (i := 167) rfl) <|
  allc (a := sEl 1 4) (List.mem_of_getElem? (i := 168) rfl) <|
  allc (a := sEl 1 5) (List.mem_of_getElem? (i := 169) rfl) <|
  allc (a := sEl 1 6) (List.mem_of_getElem? (i := 170) rfl) <|
  allc (a := sEl 1 7) (List.mem_of_getElem? (i := 171) rfl) <|
  allc (a := sEl 1 8) (List.mem_of_getElem? (i := 172) rfl) <|
  allc (a := sEl 1 9) (List.mem_of_getElem? (i := 173) rfl) <|
  allc (a := sEl 1 10) (List.mem_of_getElem? (i := 174) rfl) <|
  allc (a := sEl 1 11) (List.mem_of_getElem? (i := 175) rfl) <|
  allc (a := sEl 1 12) (List.mem_of_getElem? (i := 176) rfl) <|
  allc (a := sEl 1 13) (List.mem_of_getElem? (i := 177) rfl) <|
  allc (a := sEl 1 14) (List.mem_of_getElem? (i := 178) rfl) <|
  allc (a := sEl 1 15) (List.mem_of_getElem? (i := 179) rfl) <|
  allc (a := sEl 1 16) (List.mem_of_getElem? (i := 180) rfl) <|
  allc (a := sEl 1 17) (List.mem_of_getElem? (i := 181) rfl) <|
  allc (a := sEl 1 18) (List.mem_of_getElem? (i := 182) rfl) <|
  allc (a := sEl 1 19) (List.mem_of_getElem? (i := 183) rfl) <|
  allc (a := sEl 1 20) (List.mem_of_getElem? (i := 184) rfl) <|
  allc (a := sEl 1 21) (List.mem_of_getElem? (i := 185) rfl) <|
  allc (a := sEl 1 22) (List.mem_of_getElem? (i := 186) rfl) <|
  allc (a := sEl 1 23) (List.mem_of_getElem? (i := 187) rfl) <|
  allc (a := sEl 1 24) (List.mem_of_getElem? (i := 188) rfl) <|
  allc (a := sEl 1 25) (List.mem_of_getElem? (i := 189) rfl) <|
  allc (a := sEl 1 26) (List.mem_of_getElem? (i := 190) rfl) <|
  allc (a := sEl 1 27) (List.mem_of_getElem? (i := 191) rfl) <|
  allc (a := sEl 1 28) (List.mem_of_getElem? (i := 192) rfl) <|
  alln
set_option maxRecDepth 20000 in
theorem sIn_2 : ∀ c ∈ (sArr 2 :: sLn 2 :: (List.range 53).map (sEl 2)), c ∈ sFlat :=
  allc (a := sArr 2) (List.mem_of_getElem? (i := 306) rfl) <|
  allc (a := sLn 2) (List.mem_of_getElem? (i := 307) rfl) <|
  allc (a := sEl 2 0) (List.mem_of_getElem? (i := 308) rfl) <|
  allc (a := sEl 2 1) (List.mem_of_getElem? (i := 309) rfl) <|
  allc (a := sEl 2 2) (List.mem_of_getElem? (i := 310) rfl) <|
  allc (a := sEl 2 3) (List.mem_of_getElem? (i := 311) rfl) <|
  allc (a := sEl 2 4) (List.mem_of_getElem? (i := 312) rfl) <|
  allc (a := sEl 2 5) (List.mem_of_getElem? (i := 313) rfl) <|
  allc (a := sEl 2 6) (List.mem_of_getElem? (i := 314) rfl) <|
  allc (a := sEl 2 7) (List.mem_of_getElem? (i := 315) rfl) <|
  allc (a := sEl 2 8) (List.mem_of_getElem? (i := 316) rfl) <|
  allc (a := sEl 2 9) (List.mem_of_getElem? (i := 317) rfl) <|
  allc (a := sEl 2 10) (List.mem_of_getElem? (i := 318) rfl) <|
  allc (a := sEl 2 11) (List.mem_of_getElem? (i := 319) rfl) <|
  allc (a := sEl 2 12) (List.mem_of_getElem? (i := 320) rfl) <|
  allc (a := sEl 2 13) (List.mem_of_getElem? (i := 321) rfl) <|
  allc (a := sEl 2 14) (List.mem_of_getElem? (i := 322) rfl) <|
  allc (a := sEl 2 15) (List.mem_of_getElem? (i := 323) rfl) <|
  allc (a := sEl 2 16) (List.mem_of_getElem? (i := 324) rfl) <|
  allc (a := sEl 2 17) (List.mem_of_getElem? (i := 325) rfl) <|
  allc (a := sEl 2 18) (List.mem_of_getElem? (i := 326) rfl) <|
  allc (a := sEl 2 19) (List.mem_of_getElem? (i := 327) rfl) <|
  allc (a := sEl 2 20) (List.mem_of_getElem? (i := 328) rfl) <|
  allc (a := sEl 2 21) (List.mem_of_getElem? (i := 329) rfl) <|
  allc (a := sEl 2 22) (List.mem_of_getElem? (i := 330) rfl) <|
  allc (a := sEl 2 23) (List.mem_of_getElem? (i := 331) rfl) <|
  allc (a := sEl 2 24) (List.mem_of_getElem? (i := 332) rfl) <|
  allc (a := sEl 2 25) (List.mem_of_getElem? (i := 333) rfl) <|
  allc (a := sEl 2 26) (List.mem_of_getElem? (i := 334) rfl) <|
  allc (a := sEl 2 27) (List.mem_of_getElem? (i := 335) rfl) <|
  allc (a := sEl 2 28) (List.mem_of_getElem? (i := 336) rfl) <|
  allc (a := sEl 2 29) (List.mem_of_getElem? (i := 337) rfl) <|
  allc (a := sEl 2 30) (List.mem_of_getElem? (i := 338) rfl) <|
  allc (a := sEl 2 31) (List.mem_of_getElem? (i := 339) rfl) <|
  allc (a := sEl 2 32) (List.mem_of_getElem? (i := 340) rfl) <|
  allc (a := sEl 2 33) (List.mem_of_getElem? (i := 341) rfl) <|
  allc (a := sEl 2 34) (List.mem_of_getElem? (i := 342) rfl) <|
  allc (a := sEl 2 35) (List.mem_of_getElem? (i := 343) rfl) <|
  allc (a := sEl 2 36) (List.mem_of_getElem? (i := 344) rfl) <|
  allc (a := sEl 2 37) (List.mem_of_getElem? (i := 345) rfl) <|
  allc (a := sEl 2 38) (List.mem_of_getElem? (i := 346) rfl) <|
  allc (a := sEl 2 39) (List.mem_of_getElem? (i := 347) rfl) <|
  allc (a := sEl 2 40) (List.mem_of_getElem? (i := 348) rfl) <|
  allc (a := sEl 2 41) (List.mem_of_getElem? (i := 349) rfl) <|
  allc (a := sEl 2 42) (List.mem_of_getElem? (i := 350) rfl) <|
  allc (a := sEl 2 43) (List.mem_of_getElem? (i := 351) rfl) <|
  allc (a := sEl 2 44) (List.mem_of_getElem? (i := 352) rfl) <|
  allc (a := sEl 2 45) (List.mem_of_getElem? (i := 353) rfl) <|
  allc (a := sEl 2 46) (List.mem_of_getElem? (i := 354) rfl) <|
  allc (a := sEl 2 47) (List.mem_of_getElem? (i := 355) rfl) <|
  allc (a := sEl 2 48) (List.mem_of_getElem? (i := 356) rfl) <|
  allc (a := sEl 2 49) (List.mem_of_getElem? (i := 357) rfl) <|
  allc (a := sEl 2 50) (List.mem_of_getElem? (i := 358) rfl) <|
  allc (a := sEl 2 51) (List.mem_of_getElem? (i := 359) rfl) <|
  allc (a := sEl 2 52) (List.mem_of_getElem? (i := 360) rfl) <|
  alln
set_option maxRecDepth 20000 in
theorem sIn_3 : ∀ c ∈ (sArr 3 :: sLn 3 :: (List.range 36).map (sEl 3)), c ∈ sFlat :=
  allc (a := sArr 3) (List.mem_of_getElem? (i := 5) rfl) <|
  allc (a := sLn 3) (List.mem_of_getElem? (i := 6) rfl) <|
  allc (a := sEl 3 0) (List.mem_of_getElem? (i := 7) rfl) <|
  allc (a := sEl 3 1) (List.mem_of_getElem? (i := 8) rfl) <|
  allc (a := sEl 3 2) (List.mem_of_getElem? (i := 9) rfl) <|
  allc (a := sEl 3 3) (List.mem_of_getElem? (i := 10) rfl) <|
  allc (a := sEl 3 4) (List.mem_of_getElem? (i := 11) rfl) <|
  allc (a := sEl 3 5) (List.mem_of_getElem? (i := 12) rfl) <|
  allc (a := sEl 3 6) (List.mem_of_getElem? (i := 13) rfl) <|
  allc (a := sEl 3 7) (List.mem_of_getElem? (i := 14) rfl) <|
  allc (a := sEl 3 8) (List.mem_of_getElem? (i := 15) rfl) <|
  allc (a := sEl 3 9) (List.mem_of_getElem? (i := 16) rfl) <|
  allc (a := sEl 3 10) (List.mem_of_getElem? (i := 17) rfl) <|
  allc (a := sEl 3 11) (List.mem_of_getElem? (i := 18) rfl) <|
  allc (a := sEl 3 12) (List.mem_of_getElem? (i := 19) rfl) <|
  allc (a := sEl 3 13) (List.mem_of_getElem? (i := 20) rfl) <|
  allc (a := sEl 3 14) (List.mem_of_getElem? (i := 21) rfl) <|
  allc (a := sEl 3 15) (List.mem_of_getElem? (i := 22) rfl) <|
  allc (a := sEl 3 16) (List.mem_of_getElem? (i := 23) rfl) <|
  allc (a := sEl 3 17) (List.mem_of_getElem? (i := 24) rfl) <|
  allc (a := sEl 3 18) (List.mem_of_getElem? (i := 25) rfl) <|
  allc (a := sEl 3 19) (List.mem_of_getElem? (i := 26) rfl) <|
  allc (a := sEl 3 20) (List.mem_of_getElem? (i := 27) rfl) <|
  allc (a := sEl 3 21) (List.mem_of_getElem? (i := 28) rfl) <|
  allc (a := sEl 3 22) (List.mem_of_getElem? (i := 29) rfl) <|
  allc (a := sEl 3 23) (List.mem_of_getElem? (i := 30) rfl) <|
  allc (a := sEl 3 24) (List.mem_of_getElem? (i := 31) rfl) <|
  allc (a := sEl 3 25) (List.mem_of_getElem? (i := 32) rfl) <|
  allc (a := sEl 3 26) (List.mem_of_getElem? (i := 33) rfl) <|
  allc (a := sEl 3 27) (List.mem_of_getElem? (i := 34) rfl) <|
  allc (a := sEl 3 28) (List.mem_of_getElem? (i := 35) rfl) <|
  allc (a := sEl 3 29) (List.mem_of_getElem? (i := 36) rfl) <|
  allc (a := sEl 3 30) (List.mem_of_getElem? (i := 37) rfl) <|
  allc (a := sEl 3 31) (List.mem_of_getElem? (i := 38) rfl) <|
  allc (a := sEl 3 32) (List.mem_of_getElem? (i := 39) rfl) <|
  allc (a := sEl 3 33) (List.mem_of_getElem? (i := 40) rfl) <|
  allc (a := sEl 3 34) (List.mem_of_getElem? (i := 41) rfl) <|
  allc (a := sEl 3 35) (List.mem_of_getElem? (i := 42) rfl) <|
  alln
set_option maxRecDepth 20000 in
theorem sIn_4 : ∀ c ∈ (sArr 4 :: sLn 4 :: (List.range 36).map (sEl 4)), c ∈ sFlat :=
  allc (a := sArr 4) (List.mem_of_getElem? (i := 44) rfl) <|
  allc (a := sLn 4) (List.mem_of_getElem? (i := 45) rfl) <|
  allc (a := sEl 4 0) (List.mem_of_getElem? (i := 46) rfl) <|
  allc (a := sEl 4 1) (List.mem_of_getElem? (i := 47) rfl) <|
  allc (a := sEl 4 2) (List.mem_of_getElem? (i := 48) rfl) <|
  allc (a := sEl 4 3) (List.mem_of_getElem? (i := 49) rfl) <|
  allc (a := sEl 4 4) (List.mem_of_getElem? (i := 50) rfl) <|
  allc (a := sEl 4 5) (List.mem_of_getElem? (i := 51) rfl) <|
  allc (a := sEl 4 6) (List.mem_of_getElem? (i := 52) rfl) <|
  allc (a := sEl 4 7) (List.mem_of_getElem? (i := 53) rfl) <|
  allc (a := sEl 4 8) (List.mem_of_getElem? (i := 54) rfl) <|
  allc (a := sEl 4 9) (List.mem_of_getElem? (i := 55) rfl) <|
  allc (a := sEl 4 10) (List.mem_of_getElem? (i := 56) rfl) <|
  allc (a := sEl 4 11) (List.mem_of_getElem? (i := 57) rfl) <|
  allc (a := sEl 4 12) (List.mem_of_getElem? (i := 58) rfl) <|
  allc (a := sEl 4 13) (List.mem_of_getElem? (i := 59) rfl) <|
  allc (a := sEl 4 14) (List.mem_of_getElem? (i := 60) rfl) <|
  allc (a := sEl 4 15) (List.mem_of_getElem? (i := 61) rfl) <|
  allc (a := sEl 4 16) (List.mem_of_getElem? (i := 62) rfl) <|
  allc (a := sEl 4 17) (List.mem_of_getElem? (i := 63) rfl) <|
  allc (a := sEl 4 18) (List.mem_of_getElem? (i := 64) rfl) <|
  allc (a := sEl 4 19) (List.mem_of_getElem? (i := 65) rfl) <|
  allc (a := sEl 4 20) (List.mem_of_getElem? (i := 66) rfl) <|
  allc (a := sEl 4 21) (List.mem_of_getElem? (i := 67) rfl) <|
  allc (a := sEl 4 22) (List.mem_of_getElem? (i := 68) rfl) <|
  allc (a := sEl 4 23) (List.mem_of_getElem? (i := 69) rfl) <|
  allc (a := sEl 4 24) (List.mem_of_getElem? (i := 70) rfl) <|
  allc (a := sEl 4 25) (List.mem_of_getElem? (i := 71) rfl) <|
  allc (a := sEl 4 26) (List.mem_of_getElem? (i := 72) rfl) <|
  allc (a := sEl 4 27) (List.mem_of_getElem? (i := 73) rfl) <|
  allc (a := sEl 4 28) (List.mem_of_getElem? (i := 74) rfl) <|
  allc (a := sEl 4 29) (List.mem_of_getElem? (i := 75) rfl) <|
  allc (a := sEl 4 30) (List.mem_of_getElem? (i := 76) rfl) <|
  allc (a := sEl 4 31) (List.mem_of_getElem? (i := 77) rfl) <|
  allc (a := sEl 4 32) (List.mem_of_getElem? (i := 78) rfl) <|
  allc (a := sEl 4 33) (List.mem_of_getElem? (i := 79) rfl) <|
  allc (a := sEl 4 34) (List.mem_of_getElem? (i := 80) rfl) <|
  allc (a := sEl 4 35) (List.mem_of_getElem? (i := 81) rfl) <|
  alln
set_option maxRecDepth 20000 in
theorem sIn_5 : ∀ c ∈ (sArr 5 :: sLn 5 :: (List.range 17).map (sEl 5)), c ∈ sFlat :=
  allc (a := sArr 5) (List.mem_of_getElem? (i := 122) rfl) <|
  allc (a := sLn 5) (List.mem_of_getElem? (i := 123) rfl) <|
  allc (a := sEl 5 0) (List.mem_of_getElem? (i := 124) rfl) <|
  allc (a := sEl 5 1) (List.mem_of_getElem? (i := 125) rfl) <|
  allc (a := sEl 5 2) (List.mem_of_getElem? (i := 126) rfl) <|
  allc (a := sEl 5 3) (List.mem_of_getElem? (i := 127) rfl) <|
  allc (a := sEl 5 4) (List.mem_of_getElem? (i := 128) rfl) <|
  allc (a := sEl 5 5) (List.mem_of_getElem? (i := 129) rfl) <|
  allc (a := sEl 5 6) (List.mem_of_getElem? (i := 130) rfl) <|
  allc (a := sEl 5 7) (List.mem_of_getElem? (i := 131) rfl) <|
  allc (a := sEl 5 8) (List.mem_of_getElem? (i := 132) rfl) <|
  allc (a := sEl 5 9) (List.mem_of_getElem? (i := 133) rfl) <|
  allc (a := sEl 5 10) (List.mem_of_getElem? (i := 134) rfl) <|
  allc (a := sEl 5 11) (List.mem_of_getElem? (i := 135) rfl) <|
  allc (a := sEl 5 12) (List.mem_of_getElem? (i := 136) rfl) <|
  allc (a := sEl 5 13) (List.mem_of_getElem? (i := 137) rfl) <|
  allc (a := sEl 5 14) (List.mem_of_getElem? (i := 138) rfl) <|
  allc (a := sEl 5 15) (List.mem_of_getElem? (i := 139) rfl) <|
  allc (a := sEl 5 16) (List.mem_of_getElem? (i := 140) rfl) <|
  alln
set_option maxRecDepth 20000 in
theorem sIn_6 : ∀ c ∈ (sArr 6 :: sLn 6 :: (List.range 17).map (sEl 6)), c ∈ sFlat :=
  allc (a := sArr 6) (List.mem_of_getElem? (i := 142) rfl) <|
  allc (a := sLn 6) (List.mem_of_getElem? (i := 143) rfl) <|
  allc (a := sEl 6 0) (List.mem_of_getElem? (i := 144) rfl) <|
  allc (a := sEl 6 1) (List.mem_of_getElem? (i := 145) rfl) <|
  allc (a := sEl 6 2) (List.mem_of_getElem? (i := 146) rfl) <|
  allc (a := sEl 6 3) (List.mem_of_getElem? (i := 147) rfl) <|
  allc (a := sEl 6 4) (List.mem_of_getElem? (i := 148) rfl) <|
  allc (a := sEl 6 5) (List.mem_of_getElem? (i := 149) rfl) <|
  allc (a := sEl 6 6) (List.mem_of_getElem? (i := 150) rfl) <|
  allc (a := sEl 6 7) (List.mem_of_getElem? (i := 151) rfl) <|
  allc (a := sEl 6 8) (List.mem_of_getElem? (i := 152) rfl) <|
  allc (a := sEl 6 9) (List.mem_of_getElem? (i := 153) rfl) <|
  allc (a := sEl 6 10) (List.mem_of_getElem? (i := 154) rfl) <|
  allc (a := sEl 6 11) (List.mem_of_getElem? (i := 155) rfl) <|
  allc (a := sEl 6 12) (List.mem_of_getElem? (i := 156) rfl) <|
  allc (a := sEl 6 13) (List.mem_of_getElem? (i := 157) rfl) <|
  allc (a := sEl 6 14) (List.mem_of_getElem? (i := 158) rfl) <|
  allc (a := sEl 6 15) (List.mem_of_getElem? (i := 159) rfl) <|
  allc (a := sEl 6 16) (List.mem_of_getElem? (i := 160) rfl) <|
  alln
set_option maxRecDepth 20000 in
theorem sIn_7 : ∀ c ∈ (sArr 7 :: sLn 7 :: (List.range 53).map (sEl 7)), c ∈ sFlat :=
  allc (a := sArr 7) (List.mem_of_getElem? (i := 194) rfl) <|
  allc (a := sLn 7) (List.mem_of_getElem? (i := 195) rfl) <|
  allc (a := sEl 7 0) (List.mem_of_getElem? (i := 196) rfl) <|
  allc (a := sEl 7 1) (List.mem_of_getElem? (i := 197) rfl) <|
  allc (a := sEl 7 2) (List.mem_of_getElem? (i := 198) rfl) <|
  allc (a := sEl 7 3) (List.mem_of_getElem? (i := 199) rfl) <|
  allc (a := sEl 7 4) (List.mem_of_getElem? (i := 200) rfl) <|
  allc (a := sEl 7 5) (List.mem_of_getElem? (i := 201) rfl) <|
  allc (a := sEl 7 6) (List.mem_of_getElem? (i := 202) rfl) <|
  allc (a := sEl 7 7) (List.mem_of_getElem? (i := 203) rfl) <|
  allc (a := sEl 7 8) (List.mem_of_getElem? (i := 204) rfl) <|
  allc (a := sEl 7 9) (List.mem_of_getElem? (i := 205) rfl) <|
  allc (a := sEl 7 10) (List.mem_of_getElem? (i := 206) rfl) <|
  allc (a := sEl 7 11) (List.mem_of_getElem? (i := 207) rfl) <|
  allc (a := sEl 7 12) (List.mem_of_getElem? (i := 208) rfl) <|
  allc (a := sEl 7 13) (List.mem_of_getElem? (i := 209) rfl) <|
  allc (a := sEl 7 14) (List.mem_of_getElem? (i := 210) rfl) <|
  allc (a := sEl 7 15) (List.mem_of_getElem? (i := 211) rfl) <|
  allc (a := sEl 7 16) (List.mem_of_getElem? (i := 212) rfl) <|
  allc (a := sEl 7 17) (List.mem_of_getElem? (i := 213) rfl) <|
  allc (a := sEl 7 18) (List.mem_of_getElem? (i := 214) rfl) <|
  allc (a := sEl 7 19) (List.mem_of_getElem? (i := 215) rfl) <|
  allc (a := sEl 7 20) (List.mem_of_getElem? (i := 216) rfl) <|
  allc (a := sEl 7 21) (List.mem_of_getElem? (i := 217) rfl) <|
  allc (a := sEl 7 22) (List.mem_of_getElem? (i := 218) rfl) <|
  allc (a := sEl 7 23) (List.mem_of_getElem? (i := 219) rfl) <|
  allc (a := sEl 7 24) (List.mem_of_getElem? (i := 220) rfl) <|
  allc (a := sEl 7 25) (List.mem_of_getElem? (i := 221) rfl) <|
  allc (a := sEl 7 26) (List.mem_of_getElem? (i := 222) rfl) <|
  allc (a := sEl 7 27) (List.mem_of_getElem? (i := 223) rfl) <|
  allc (a := sEl 7 28) (List.mem_of_getElem? (i := 224) rfl) <|
  allc (a := sEl 7 29) (List.mem_of_getElem? (i := 225) rfl) <|
  allc (a := sEl 7 30) (List.mem_of_getElem? (i := 226) rfl) <|
  allc (a := sEl 7 31) (List.mem_of_getElem? (i := 227) rfl) <|
  allc (a := sEl 7 32) (List.mem_of_getElem? (i := 228) rfl) <|
  allc (a := sEl 7 33) (List.mem_of_getElem? (i := 229) rfl) <|
  allc (a := sEl 7 34) (List.mem_of_getElem? (i := 230) rfl) <|
  allc (a := sEl 7 35) (List.mem_of_getElem? (i := 231) rfl) <|
  allc (a := sEl 7 36) (List.mem_of_getElem? (i := 232) rfl) <|
  allc (a := sEl 7 37) (List.mem_of_getElem? (i := 233) rfl) <|
  allc (a := sEl 7 38) (List.mem_of_getElem? (i := 234) rfl) <|
  allc (a := sEl 7 39) (List.mem_of_getElem? (i := 235) rfl) <|
  allc (a := sEl 7 40) (List.mem_of_getElem? (i := 236) rfl) <|
  allc (a := sEl 7 41) (List.mem_of_getElem? (i := 237) rfl) <|
  allc (a := sEl 7 42) (List.mem_of_getElem? (i := 238) rfl) <|
  allc (a := sEl 7 43) (List.mem_of_getElem? (i := 239) rfl) <|
  allc (a := sEl 7 44) (List.mem_of_getElem? (i := 240) rfl) <|
  allc (a := sEl 7 45) (List.mem_of_getElem? (i := 241) rfl) <|
  allc (a := sEl 7 46) (List.mem_of_getElem? (i := 242) rfl) <|
  allc (a := sEl 7 47) (List.mem_of_getElem? (i := 243) rfl) <|
  allc (a := sEl 7 48) (List.mem_of_getElem? (i := 244) rfl) <|
  allc (a := sEl 7 49) (List.mem_of_getElem? (i := 245) rfl) <|
  allc (a := sEl 7 50) (List.mem_of_getElem? (i := 246) rfl) <|
  allc (a := sEl 7 51) (List.mem_of_getElem? (i := 247) rfl) <|
  allc (a := sEl 7 52) (List.mem_of_getElem? (i := 248) rfl) <|
  alln
set_option maxRecDepth 20000 in
theorem sIn_8 : ∀ c ∈ (sArr 8 :: sLn 8 :: (List.range 53).map (sEl 8)), c ∈ sFlat :=
  allc (a := sArr 8) (List.mem_of_getElem? (i := 250) rfl) <|
  allc (a := sLn 8) (List.mem_of_getElem? (i := 251) rfl) <|
  allc (a := sEl 8 0) (List.mem_of_getElem? (i := 252) rfl) <|
  allc (a := sEl 8 1) (List.mem_of_getElem? (i := 253) rfl) <|
  allc (a := sEl 8 2) (List.mem_of_getElem? (i := 254) rfl) <|
  allc (a := sEl 8 3) (List.mem_of_getElem? (i := 255) rfl) <|
  allc (a := sEl 8 4) (List.mem_of_getElem? (i := 256) rfl) <|
  allc (a := sEl 8 5) (List.mem_of_getElem? (i := 257) rfl) <|
  allc (a := sEl 8 6) (List.mem_of_getElem? (i := 258) rfl) <|
  allc (a := sEl 8 7) (List.mem_of_getElem? (i := 259) rfl) <|
  allc (a := sEl 8 8) (List.mem_of_getElem? (i := 260) rfl) <|
  allc (a := sEl 8 9) (List.mem_of_getElem? (i := 261) rfl) <|
  allc (a := sEl 8 10) (List.mem_of_getElem? (i := 262) rfl) <|
  allc (a := sEl 8 11) (List.mem_of_getElem? (i := 263) rfl) <|
  allc (a := sEl 8 12) (List.mem_of_getElem? (i := 264) rfl) <|
  allc (a := sEl 8 13) (List.mem_of_getElem? (i := 265) rfl) <|
  allc (a := sEl 8 14) (List.mem_of_getElem? (i := 266) rfl) <|
  allc (a := sEl 8 15) (List.mem_of_getElem? (i := 267) rfl) <|
  allc (a := sEl 8 16) (List.mem_of_getElem? (i := 268) rfl) <|
  allc (a := sEl 8 17) (List.mem_of_getElem? (i := 269) rfl) <|
  allc (a := sEl 8 18) (List.mem_of_getElem? (i := 270) rfl) <|
  allc (a := sEl 8 19) (List.mem_of_getElem? (i := 271) rfl) <|
  allc (a := sEl 8 20) (List.mem_of_getElem? (i := 272) rfl) <|
  allc (a := sEl 8 21) (List.mem_of_getElem? (i := 273) rfl) <|
  allc (a := sEl 8 22) (List.mem_of_getElem? (i := 274) rfl) <|
  allc (a := sEl 8 23) (List.mem_of_getElem? (i := 275) rfl) <|
  allc (a := sEl 8 24) (List.mem_of_getElem? (i := 276) rfl) <|
  allc (a := sEl 8 25) (List.mem_of_getElem? (i := 277) rfl) <|
  allc (a := sEl 8 26) (List.mem_of_getElem? (i := 278) rfl) <|
  allc (a := sEl 8 27) (List.mem_of_getElem? (i := 279) rfl) <|
  allc (a := sEl 8 28) (List.mem_of_getElem? (i := 280) rfl) <|
  allc (a := sEl 8 29) (List.mem_of_getElem? (i := 281) rfl) <|
  allc (a := sEl 8 30) (List.mem_of_getElem? (i := 282) rfl) <|
  allc (a := sEl 8 31) (List.mem_of_getElem? (i := 283) rfl) <|
  allc (a := sEl 8 32) (List.mem_of_getElem? (i := 284) rfl) <|
  allc (a := sEl 8 33) (List.mem_of_getElem? (i := 285) rfl) <|
  allc (a := sEl 8 34) (List.mem_of_getElem? (i := 286) rfl) <|
  allc (a := sEl 8 35) (List.mem_of_getElem? (i := 287) rfl) <|
  allc (a := sEl 8 36) (List.mem_of_getElem? (i := 288) rfl) <|
  allc (a := sEl 8 37) (List.mem_of_getElem? (i := 289) rfl) <|
  allc (a := sEl 8 38) (List.mem_of_getElem? (i := 290) rfl) <|
  allc (a := sEl 8 39) (List.mem_of_getElem? (i := 291) rfl) <|
  allc (a := sEl 8 40) (List.mem_of_getElem? (i := 292) rfl) <|
  allc (a := sEl 8 41) (List.mem_of_getElem? (i := 293) rfl) <|
  allc (a := sEl 8 42) (List.mem_of_getElem? (i := 294) rfl) <|
  allc (a := sEl 8 43) (List.mem_of_getElem? (i := 295) rfl) <|
  allc (a := sEl 8 44) (List.mem_of_getElem? (i := 296) rfl) <|
  allc (a := sEl 8 45) (List.mem_of_getElem? (i := 297) rfl) <|
  allc (a := sEl 8 46) (List.mem_of_getElem? (i := 298) rfl) <|
  allc (a := sEl 8 47) (List.mem_of_getElem? (i := 299) rfl) <|
  allc (a := sEl 8 48) (List.mem_of_getElem? (i := 300) rfl) <|
  allc (a := sEl 8 49) (List.mem_of_getElem? (i := 301) rfl) <|
  allc (a := sEl 8 50) (List.mem_of_getElem? (i := 302) rfl) <|
  allc (a := sEl 8 51) (List.mem_of_getElem? (i := 303) rfl) <|
  allc (a := sEl 8 52) (List.mem_of_getElem? (i := 304) rfl) <|
  alln
theorem sAll_mem {j : Nat} (hj : j < 9) : ∀ c ∈ (sArr j :: sLn j :: (List.range (sTab.getD j []).length).map (sEl j)), c ∈ sFlat := by
  match j, hj with
  | 0, _ => exact sIn_0
  | 1, _ => exact sIn_1
  | 2, _ => exact sIn_2
  | 3, _ => exact sIn_3
  | 4, _ => exact sIn_4
  | 5, _ => exact sIn_5
  | 6, _ => exact sIn_6
  | 7, _ => exact sIn_7
  | 8, _ => exact sIn_8
  | k + 9, h => exact absurd h (by omega)
theorem s_lays (j : Nat) (hj : j < 9) : Cond.laysStatic "StatePress" (sNm j) "[I" ∈ lw_tbl := by
  have h : (List.range 9).all (fun j => lw_tbl.contains (Cond.laysStatic "StatePress" (sNm j) "[I")) = true := by decide +kernel
  exact List.contains_iff_mem.mp (List.all_eq_true.mp h j (List.mem_range.mpr hj))
theorem env_start {p : Program} {s : State} {m : MethodId} {meth : Method} {c : Code} {b L : Nat} {xs : Nat → Int32} (hL : L ≤ 2048) (C0 : lw_At p s m meth c b L xs) : ∃ (D : va_G) (cy : Nat → ClassId) (st : Nat → Nat), st 9 = b ∧ aEnv D cy s.heap.size st (sLen L) (sVal xs) s := by
  obtain ⟨hx, hb, hr, hml, hown, hts, hX, hbl, hlocks, hgv⟩ := C0
  have htg : ∀ w ∈ TBg, w.before #[Value.ref b] s = true := fun w hw => hts w (List.mem_filter.mp hw).1
  have hA : ∀ a : Nat, a < s.heap.size → ¬ aA s.heap.size a := fun a h => Nat.not_le.mpr h
  have hfl := flat_of_before _ hgv
  obtain ⟨c0, i0, K0⟩ := u_known (C := RX0) (T := TX0) (N := 5) (n := 5) htg lX0 (htg _ kw_172)
  obtain ⟨c1, i1, K1⟩ := u_known (C := RX1) (T := TX1) (N := 18) (n := 18) htg lX1 (htg _ kw_414)
  obtain ⟨c2, i2, K2⟩ := u_known (C := RX2) (T := TX2) (N := 5) (n := 5) htg lX2 (htg _ kw_264)
  obtain ⟨c3, i3, K3⟩ := u_known (C := RX3) (T := TX3) (N := 13) (n := 13) htg lX3 (htg _ kw_296)
  obtain ⟨c4, i4, K4⟩ := u_known (C := RX4) (T := TX4) (N := 5) (n := 5) htg lX4 (htg _ kw_352)
  obtain ⟨c5, i5, K5⟩ := u_known (C := RX5) (T := TX5) (N := 12) (n := 12) htg lX5 (htg _ kw_344)
  obtain ⟨c6, i6, K6⟩ := u_known (C := RX6) (T := TX6) (N := 9) (n := 9) htg lX6 (htg _ kw_290)
  obtain ⟨c7, i7, K7⟩ := u_known (C := RX7) (T := TX7) (N := 5) (n := 5) htg lX7 (htg _ kw_129)
  obtain ⟨c8, i8, K8⟩ := u_known (C := RX8) (T := TX8) (N := 9) (n := 9) htg lX8 (htg _ kw_199)
  obtain ⟨c9, i9, K9⟩ := u_known (C := RX9) (T := TX9) (N := 6) (n := 6) htg lX9 (htg _ kw_164)
  obtain ⟨c10, i10, K10⟩ := u_known (C := RX11) (T := TX11) (N := 12) (n := 12) htg lX11 (htg _ kw_121)
  obtain ⟨c11, i11, K11⟩ := u_known (C := RX12) (T := TX12) (N := 64) (n := 64) htg lX12 (htg _ kw_1180)
  obtain ⟨ybyte, abyte, rbyte⟩ := arrOf (htg _ kw_162) (fun _ _ h => h)
  obtain ⟨yint, aint, rint⟩ := arrOf (htg _ kw_197) (fun _ _ h => h)
  obtain ⟨ylong, along, rlong⟩ := arrOf (htg _ kw_1379) (fun _ _ h => h)
  obtain ⟨yboolean, aboolean, rboolean⟩ := arrOf (htg _ kw_1378) (fun _ _ h => h)
  have hst : ∀ j : Nat, ∃ t : Nat, j < 9 → (Term.static "StatePress" (sNm j) "[I").eval #[Value.ref b] s none [] s = some (.ref t) ∧ va_T .int t (sTab.getD j []).length (fun i => .int ((sTab.getD j []).getD i 0)) (aA s.heap.size) s s.heap := by
    intro j
    by_cases hj : j < 9
    · have hm : ∀ c ∈ (sArr j :: sLn j :: (List.range (sTab.getD j []).length).map (sEl j)), c.before #[Value.ref b] s = true := fun c hc => hfl c (sAll_mem hj c hc)
      have hN : (sTab.getD j []).length < 2 ^ 31 := by
        have h : (List.range 9).all (fun j => decide ((sTab.getD j []).length < 2 ^ 31)) = true := by decide +kernel
        exact of_decide_eq_true (List.all_eq_true.mp h j (List.mem_range.mpr hj))
      obtain ⟨t, h1, h2⟩ := va_Tof (A := aA s.heap.size) (f := fun i => .int ((sTab.getD j []).getD i 0)) hN (hm _ List.mem_cons_self) (va_eqt (hm _ (List.mem_cons_of_mem _ List.mem_cons_self))) (fun i hi => va_eqt (hm _ (List.mem_cons_of_mem _ (List.mem_cons_of_mem _ (List.mem_map.mpr ⟨i, List.mem_range.mpr hi, rfl⟩))))) hA
      exact ⟨t, fun _ => ⟨h1, h2⟩⟩
    · exact ⟨0, fun h => absurd h hj⟩
  obtain ⟨st0, hst0⟩ := Classical.axiomOfChoice hst
  refine ⟨(fun k => ([c0, c1, c2, c3, c4, c5, c6, c7, c8, c9, c10, c11] : List ClassId).getD k 0, fun k => ([i0, i1, i2, i3, i4, i5, i6, i7, i8, i9, i10, i11] : List (Nat → Nat)).getD k (fun _ => 0)), fun t => ([ybyte, yint, ylong, yboolean] : List ClassId).getD t 0, fun j => if j = 9 then b else st0 j, if_pos rfl, ⟨?_, ?_⟩, ?_, ?_, ?_⟩
  · intro k q hq
    match k, hq with
    | 0, hq => cases hq; exact K0
    | 1, hq => cases hq; exact K1
    | 2, hq => cases hq; exact K2
    | 3, hq => cases hq; exact K3
    | 4, hq => cases hq; exact K4
    | 5, hq => cases hq; exact K5
    | 6, hq => cases hq; exact K6
    | 7, hq => cases hq; exact K7
    | 8, hq => cases hq; exact K8
    | 9, hq => cases hq; exact K9
    | 10, hq => cases hq; exact K10
    | 11, hq => cases hq; exact K11
    | k + 12, hq => simp at hq
  · intro k q hq
    match k, hq with
    | 0, hq => cases hq; exact ⟨abyte, rbyte⟩
    | 1, hq => cases hq; exact ⟨aint, rint⟩
    | 2, hq => cases hq; exact ⟨along, rlong⟩
    | 3, hq => cases hq; exact ⟨aboolean, rboolean⟩
    | k + 4, hq => simp at hq
  · intro j hj
    by_cases h9 : j = 9
    · subst h9
      obtain ⟨scr, h1, h2, h3, h4, h5⟩ := hX
      show va_T .int b L (fun i => .int (xs i)) (aA s.heap.size) s s.heap
      exact ⟨scr, h1, h2, h3, Nat.le_of_eq h4.symm, by rw [h4], h5, hA b hbl⟩
    · have h := (hst0 j (by omega)).2
      show va_T .int (if j = 9 then b else st0 j) (if j = 9 then L else (sTab.getD j []).length) (fun i => .int (if j = 9 then xs i else (sTab.getD j []).getD i 0)) (aA s.heap.size) s s.heap
      rw [if_neg h9, if_neg h9]
      have e : (fun i => Value.int (if j = 9 then xs i else (sTab.getD j []).getD i 0)) = fun i => .int ((sTab.getD j []).getD i 0) := by
        funext i
        rw [if_neg h9]
      rw [e]
      exact h
  · intro j hj
    show va_Z "StatePress" (sNm j) "[I" (.ref (if j = 9 then b else st0 j)) (aA s.heap.size) s s.heap
    rw [if_neg (by omega)]
    exact va_Zref (hts _ (s_lays j hj)) (htg _ kw_104) (hst0 j hj).1 hA
  · intro w hw
    have h1 := (List.mem_filter.mp hw).2
    have h2 := hts w (List.mem_filter.mp hw).1
    cases w with
    | fieldLinkNest a i b n d x => exact va_Nw.of rfl h2
    | methodLinkNest a i x y => exact va_Nw.of rfl h2
    | _ => cases h1
/-- THE CLAIM'S WALK out of a run of the law's table on the abstract machine -/
theorem start_of {p : Program} {e : Env} {s : State} {m : MethodId} {below : List Frame} {meth : Method} {c : Code} (l : Launch) {b L : Nat} {xs : Nat → Int32} (hL : L ≤ 2048) (C0 : lw_At p s m meth c b L xs) (hrun : ∃ n H', aX (lk tLaw) (mM 10) n 0 [(0, .ref (aBig + 9))] [] (H0 L xs) (some (.int 1)) H' ∧ H'.1 ≤ 600000 ∧ H'.2.1 ≤ 7302250) : W p l e room_1 s m #[Value.ref b] below meth c s.heap [] 0 0 (lw_Z below #[Value.ref b] s) (entryFrame m ([Value.ref b] : List Value).toArray 4) := by
  obtain ⟨D, cy, st, h9, henv⟩ := env_start hL C0
  obtain ⟨n, H', hX, hc, hs⟩ := hrun
  obtain ⟨hx, hb, hr, hml, hown, hts, hXb, hbl, hlocks, hgv⟩ := C0
  have C : Cx cL_law 4 RL meth.name D cy s.heap.size st (sLen L) (sVal xs) p room_1 s m #[Value.ref b] meth c := ⟨hx, hb, hml, hown, fun w hw => hts w (List.mem_filter.mp hw).1, henv, Nat.le_refl _, hlocks, rfl, by decide, by decide⟩
  have hl := lv_entry ([.ref b]) (n := 4) (Nat.le_of_ble_eq_true rfl)
  rw [lg_entry_eq]
  have hsim : Sim D cy s.heap.size st (sLen L) (sVal xs) (H0 L xs) s.heap := by
    refine ⟨rfl, (show 0 < 1000000 by decide), fun k hk => absurd hk (Nat.not_lt_zero k), fun j _ => ?_⟩
    show (Sum.inl (1, sLen L (aBig + j - aBig), Sum.inl (sVal xs (aBig + j - aBig))) : aE) = _
    rw [Nat.add_sub_cancel_left]
  have k := bodyL (l := l) (e := e) (below := below) C rfl hr hc hs n 0 _ _ _ hX s.heap [] _ hsim va_S.rf (by
    have e1 : cvL s.heap.size st [(0, Value.ref (aBig + 9))] = [(0, Value.ref b)] := by
      show [(0, cv s.heap.size st (.ref (aBig + 9)))] = _
      rw [cv_sref, h9]
    rw [e1]
    exact hl)
  exact k
