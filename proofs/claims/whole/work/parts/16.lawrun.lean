/-! THE CLAIM OUT OF ONE WALK OF THE LAW'S BODY. Your part is whole_start (and what it stands on); all else here is the same for every law, but numbers. -/
def R_law : String := "StatePressLaw"
def lw_P (b : Addr) (xs : List Int32) (args : Array Value) (s : State) : Prop := args = #[.ref b] ∧ s.IntsAt b xs ∧ xs.length ≤ 2048 ∧ (Jvm.Cond.and given_1 narrow_1).before args s = true
def lw_Q (_ : Array Value) (s : State) (o : Outcome) (t : State) : Prop := o = .returned (some (.int 1)) ∧ Framed s o t [] 600000 7302250
def lw_Z (below : List Frame) (a : Array Value) (s : State) : State → Prop := fun t => ∃ o, t.status = .running ∧ Ended t below o ∧ lw_Q a s o t
/-- the law's own end, with 1 on the stack, nothing written that was there before, its room as the claim has it -/
theorem lw_ret {p : Program} {l : Launch} {e : Env} {s : State} {m : MethodId} {below : List Frame} {meth : Method} {c : Code} {b : Nat} (hx : p.tables.exec = Jvm.exec) (hb : c.code = code) (hr : meth.sig.returnType = ret) (hlocks : meth.locks = false) {pc : Nat} {H : Heap} {ls : Array Slot} (hdg : decode code pc = .ok (.ireturn, 1)) : W p l e room_1 s m #[Value.ref b] below meth c H [] 600000 7302250 (lw_Z below #[Value.ref b] s) (F0 m pc ls [.int 1]) := by
  intro T hT X
  obtain ⟨fs, hret, hrun, hended, hW, hframe⟩ := X.leave (v := some (.int 1)) (hlocks := hlocks) (fun h => by rw [hr] at h; cases h)
  have hmeth' : T.vm.method? m = some meth := X.method'
  refine ⟨T.setFrames fs, ?_, .returned (some (.int 1)), hrun, hended, rfl, ⟨_, rfl⟩, hW, hframe⟩
  jvm_step X.here [X.here.top, hx, hb, hdg, hmeth', hr, ret, narrow_b1]
  (try refine ⟨rfl, ?_⟩); (try refine ⟨rfl, ?_⟩)
  first | (intro acts; rw [hret _ acts rfl rfl rfl]) | rw [hret _ _ rfl rfl rfl]
  exact Steps.refl _
/-- what holds at the law's entry: the machine, the code, the tables' words (any of lw_tbl by 'hts w (by decide +kernel)'), the script of L ints xs at the cell b, what the Statement gives of the start (any of its parts by flat_of_before) -/
def lw_At (p : Program) (s : State) (m : MethodId) (meth : Method) (c : Code) (b L : Nat) (xs : Nat → Int32) : Prop :=
  p.tables.exec = Jvm.exec ∧ c.code = code ∧ meth.sig.returnType = ret ∧ c.maxLocals = 4 ∧ s.vm.findClass R_law = some m.cls ∧ (∀ w ∈ lw_tbl, w.before #[Value.ref b] s = true) ∧ va_X b L xs s s.heap ∧ b < s.heap.size ∧ meth.locks = false ∧ (Jvm.Cond.and given_1 narrow_1).before #[Value.ref b] s = true
/-- THE LAW'S BODY: a run of its table that answers 1 is a walk of the machine to the law's end -/
theorem bodyL {D : va_G} {cy : Nat → ClassId} {z : Nat} {st sl : Nat → Nat} {sx : Nat → Nat → Int32} {p : Program} {l : Launch} {e : Env} {s : State} {m : MethodId} {b : Nat} {below : List Frame} {meth : Method} {c : Code} (C : Cx cL_law 4 RL meth.name D cy z st sl sx p room_1 s m #[Value.ref b] meth c) (hz : z = s.heap.size) (hret : meth.sig.returnType = ret) {H' : aH} (hc : H'.1 ≤ 600000) (hs : H'.2.1 ≤ 7302250) :
    ∀ (n pc : Nat) (L : aL) (S : List Value) (H : aH), aX (lk tLaw) (mM 10) n pc L S H (some (.int 1)) H' → Wg D cy z st sl sx 4 0 0 p l e room_1 s m #[Value.ref b] below meth c (lw_Z below #[Value.ref b] s) pc L S H
  | 0, _, _, _, _, h => h.elim
  | n + 1, pc, L, S, H, h => by
    have hf : ∀ pc f, lk tLaw pc = some (.inl f) → Mono f := fun pc f hpc => (show Okf cL_law 4 RL meth.name pc f from kLaw meth.name (pc, .inl f) (lk_mem hpc)).1
    unfold aX at h
    split at h
    · exact h.elim
    · rename_i f hpc
      split at h
      · exact h.elim
      · rename_i x hx
        have ok : Okf cL_law 4 RL meth.name pc f := kLaw meth.name (pc, .inl f) (lk_mem hpc)
        have m2 := aX_mono hf (aM_mono allOk 10) n _ _ _ _ _ _ h
        exact ok.2 D cy z st sl sx 0 0 p l e room_1 s m _ below meth c _ C L S H x hx (Nat.zero_le _) (Nat.zero_le _) (by rw [Nat.zero_add]; exact Nat.le_trans m2.1 hc) (by rw [Nat.zero_add]; exact Nat.le_trans m2.2 hs) (bodyL C hz hret hc hs n _ _ _ _ h)
    · rename_i yk hpc
      obtain ⟨hk, h8, hrc, r1, H1, ho, hx⟩ := h
      have m1 := aM_mono allOk 10 _ _ _ _ _ ho
      have m2 := aX_mono hf (aM_mono allOk 10) n _ _ _ _ _ _ hx
      have okc : OkC RL cL_law pc (mN yk.1) (mC yk.1) (mL yk.1) (mR yk.1) yk.2.1 yk.2.2 := kLaw meth.name (pc, .inr (.inl yk)) (lk_mem hpc)
      exact callStep C okc (d := 10) ⟨by decide, by decide⟩ (sound allOk l D cy z st sl sx 10 _ _ _ _ _ ho) m1 (Nat.zero_le _) (Nat.zero_le _) (by rw [Nat.zero_add]; exact Nat.le_trans m2.1 hc) (by rw [Nat.zero_add]; exact Nat.le_trans m2.2 hs) hk h8 hrc rfl (bodyL C hz hret hc hs n _ _ _ _ hx)
    · rename_i k hpc
      obtain ⟨hk, rfl⟩ := h
      intro Hp locs ls hsim hS hl
      have hok : OkJ RL meth.name cL_law 4 (some .boolean) pc (.inr (.inr k)) := kLaw meth.name (pc, .inr (.inr k)) (lk_mem hpc)
      rcases hok with ⟨-, hr, -⟩ | ⟨-, hr, -⟩ | ⟨-, hr, -⟩ | ⟨rfl, -, d1⟩
      · cases hr
      · cases hr
      · cases hr
      · rw [if_neg (by decide)] at hk
        obtain ⟨v, rfl, hv, -⟩ := hk
        cases hv
        refine va_forget (fun q hq => by rw [← hz]; exact hS.2.2 q hq) ?_
        refine W.widen (k := 600000) (n := 7302250) (by omega) (by omega) ?_
        exact lw_ret C.1 C.2.1 hret C.2.2.2.2.2.2.2.1 d1
theorem arrOf {args : Array Value} {s : State} {ty : FieldType} (h : (Cond.arrayClass ty).before args s = true) (hp : ∀ (U : State) (cA : ClassId), U.vm.findClass ("[" ++ ty.toString) = some cA → va_RA U cA ty) : ∃ cA : ClassId, ArrOfT s cA ty ∧ va_RA s cA ty := by
  obtain ⟨cA, kA, comp, hfind, hk, hkind⟩ := Cond.arrayClass_spec h
  exact ⟨cA, fun n z => ⟨fun k h => (by cases h), kA, hk, comp, hkind⟩, hp s cA hfind⟩
def sEl (j i : Nat) : Cond := Cond.eq (Term.elem (Term.static "StatePress" (sNm j) "[I") (Term.int (Int32.ofNat i))) (Term.int ((sTab.getD j []).getD i 0))
def sArr (j : Nat) : Cond := Cond.arrayOf (Term.static "StatePress" (sNm j) "[I") .int
def sLn (j : Nat) : Cond := Cond.eq (Term.length (Term.static "StatePress" (sNm j) "[I")) (Term.int (Int32.ofNat (sTab.getD j []).length))
def sAll : List Cond := (List.range 9).flatMap (fun j => sArr j :: sLn j :: (List.range (sTab.getD j []).length).map (sEl j))
theorem sAll_in : sAll.all (fun c => (flatC (Jvm.Cond.and given_1 narrow_1)).contains c) = true := by decide +kernel
theorem sAll_mem {c : Cond} (h : c ∈ sAll) : c ∈ flatC (Jvm.Cond.and given_1 narrow_1) := List.contains_iff_mem.mp (List.all_eq_true.mp sAll_in c h)
theorem s_lays (j : Nat) (hj : j < 9) : Cond.laysStatic "StatePress" (sNm j) "[I" ∈ lw_tbl := by
  have h : (List.range 9).all (fun j => lw_tbl.contains (Cond.laysStatic "StatePress" (sNm j) "[I")) = true := by decide +kernel
  exact List.contains_iff_mem.mp (List.all_eq_true.mp h j (List.mem_range.mpr hj))
theorem env_start {p : Program} {s : State} {m : MethodId} {meth : Method} {c : Code} {b L : Nat} {xs : Nat → Int32} (hL : L ≤ 2048) (C0 : lw_At p s m meth c b L xs) : ∃ (D : va_G) (cy : Nat → ClassId) (st : Nat → Nat), st 9 = b ∧ aEnv D cy s.heap.size st (sLen L) (sVal xs) s := by
  obtain ⟨hx, hb, hr, hml, hown, hts, hX, hbl, hlocks, hgv⟩ := C0
  have htg : ∀ w ∈ TBg, w.before #[Value.ref b] s = true := fun w hw => hts w (List.mem_filter.mp hw).1
  have hA : ∀ a : Nat, a < s.heap.size → ¬ aA s.heap.size a := fun a h => Nat.not_le.mpr h
  have hfl := flat_of_before _ hgv
  obtain ⟨c0, i0, K0⟩ := u_known (C := RX0) (T := TX0) (N := 5) (n := 5) htg lX0 (htg _ kw_172)
  obtain ⟨c1, i1, K1⟩ := u_known (C := RX1) (T := TX1) (N := 18) (n := 18) htg lX1 (htg _ kw_414)
  obtain ⟨c2, i2, K2⟩ := u_known (C := RX2) (T := TX2) (N := 5) (n := 5) htg lX2 (htg _ kw_264)
  obtain ⟨c3, i3, K3⟩ := u_known (C := RX3) (T := TX3) (N := 13) (n := 13) htg lX3 (htg _ kw_296)
  obtain ⟨c4, i4, K4⟩ := u_known (C := RX4) (T := TX4) (N := 5) (n := 5) htg lX4 (htg _ kw_352)
  obtain ⟨c5, i5, K5⟩ := u_known (C := RX5) (T := TX5) (N := 12) (n := 12) htg lX5 (htg _ kw_344)
  obtain ⟨c6, i6, K6⟩ := u_known (C := RX6) (T := TX6) (N := 9) (n := 9) htg lX6 (htg _ kw_290)
  obtain ⟨c7, i7, K7⟩ := u_known (C := RX7) (T := TX7) (N := 5) (n := 5) htg lX7 (htg _ kw_129)
  obtain ⟨c8, i8, K8⟩ := u_known (C := RX8) (T := TX8) (N := 9) (n := 9) htg lX8 (htg _ kw_199)
  obtain ⟨c9, i9, K9⟩ := u_known (C := RX9) (T := TX9) (N := 6) (n := 6) htg lX9 (htg _ kw_164)
  obtain ⟨c10, i10, K10⟩ := u_known (C := RX11) (T := TX11) (N := 12) (n := 12) htg lX11 (htg _ kw_121)
  obtain ⟨c11, i11, K11⟩ := u_known (C := RX12) (T := TX12) (N := 64) (n := 64) htg lX12 (htg _ kw_1184)
  obtain ⟨ybyte, abyte, rbyte⟩ := arrOf (htg _ kw_162) (fun _ _ h => h)
  obtain ⟨yint, aint, rint⟩ := arrOf (htg _ kw_197) (fun _ _ h => h)
  obtain ⟨ylong, along, rlong⟩ := arrOf (htg _ kw_1383) (fun _ _ h => h)
  obtain ⟨yboolean, aboolean, rboolean⟩ := arrOf (htg _ kw_1382) (fun _ _ h => h)
  have hst : ∀ j : Nat, ∃ t : Nat, j < 9 → (Term.static "StatePress" (sNm j) "[I").eval #[Value.ref b] s none [] s = some (.ref t) ∧ va_T .int t (sTab.getD j []).length (fun i => .int ((sTab.getD j []).getD i 0)) (aA s.heap.size) s s.heap := by
    intro j
    by_cases hj : j < 9
    · have hm : ∀ c ∈ (sArr j :: sLn j :: (List.range (sTab.getD j []).length).map (sEl j)), c.before #[Value.ref b] s = true := fun c hc => hfl c (sAll_mem (List.mem_flatMap.mpr ⟨j, List.mem_range.mpr hj, hc⟩))
      have hN : (sTab.getD j []).length < 2 ^ 31 := by
        have h : (List.range 9).all (fun j => decide ((sTab.getD j []).length < 2 ^ 31)) = true := by decide +kernel
        exact of_decide_eq_true (List.all_eq_true.mp h j (List.mem_range.mpr hj))
      obtain ⟨t, h1, h2⟩ := va_Tof (A := aA s.heap.size) (f := fun i => .int ((sTab.getD j []).getD i 0)) hN (hm _ List.mem_cons_self) (va_eqt (hm _ (List.mem_cons_of_mem _ List.mem_cons_self))) (fun i hi => va_eqt (hm _ (List.mem_cons_of_mem _ (List.mem_cons_of_mem _ (List.mem_map.mpr ⟨i, List.mem_range.mpr hi, rfl⟩))))) hA
      exact ⟨t, fun _ => ⟨h1, h2⟩⟩
    · exact ⟨0, fun h => absurd h hj⟩
  obtain ⟨st0, hst0⟩ := Classical.axiomOfChoice hst
  refine ⟨(fun k => ([c0, c1, c2, c3, c4, c5, c6, c7, c8, c9, c10, c11] : List ClassId).getD k 0, fun k => ([i0, i1, i2, i3, i4, i5, i6, i7, i8, i9, i10, i11] : List (Nat → Nat)).getD k (fun _ => 0)), fun t => ([ybyte, yint, ylong, yboolean] : List ClassId).getD t 0, fun j => if j = 9 then b else st0 j, if_pos rfl, ⟨?_, ?_⟩, ?_, ?_, ?_⟩
  · intro k q hq
    match k, hq with
    | 0, hq => cases hq; exact K0
    | 1, hq => cases hq; exact K1
    | 2, hq => cases hq; exact K2
    | 3, hq => cases hq; exact K3
    | 4, hq => cases hq; exact K4
    | 5, hq => cases hq; exact K5
    | 6, hq => cases hq; exact K6
    | 7, hq => cases hq; exact K7
    | 8, hq => cases hq; exact K8
    | 9, hq => cases hq; exact K9
    | 10, hq => cases hq; exact K10
    | 11, hq => cases hq; exact K11
    | k + 12, hq => simp at hq
  · intro k q hq
    match k, hq with
    | 0, hq => cases hq; exact ⟨abyte, rbyte⟩
    | 1, hq => cases hq; exact ⟨aint, rint⟩
    | 2, hq => cases hq; exact ⟨along, rlong⟩
    | 3, hq => cases hq; exact ⟨aboolean, rboolean⟩
    | k + 4, hq => simp at hq
  · intro j hj
    by_cases h9 : j = 9
    · subst h9
      obtain ⟨scr, h1, h2, h3, h4, h5⟩ := hX
      show va_T .int b L (fun i => .int (xs i)) (aA s.heap.size) s s.heap
      exact ⟨scr, h1, h2, h3, Nat.le_of_eq h4.symm, by rw [h4]; rfl, h5, hA b hbl⟩
    · have h := (hst0 j (by omega)).2
      show va_T .int (if j = 9 then b else st0 j) (if j = 9 then L else (sTab.getD j []).length) (fun i => .int (if j = 9 then xs i else (sTab.getD j []).getD i 0)) (aA s.heap.size) s s.heap
      rw [if_neg h9, if_neg h9]
      have e : (fun i => Value.int (if j = 9 then xs i else (sTab.getD j []).getD i 0)) = fun i => .int ((sTab.getD j []).getD i 0) := by
        funext i
        rw [if_neg h9]
      rw [e]
      exact h
  · intro j hj
    show va_Z "StatePress" (sNm j) "[I" (.ref (if j = 9 then b else st0 j)) (aA s.heap.size) s s.heap
    rw [if_neg (by omega)]
    exact va_Zref (hts _ (s_lays j hj)) (htg _ kw_104) (hst0 j hj).1 hA
  · intro w hw
    have h1 := (List.mem_filter.mp hw).2
    have h2 := hts w (List.mem_filter.mp hw).1
    cases w with
    | fieldLinkNest a i b n d x => exact va_Nw.of rfl h2
    | methodLinkNest a i x y => exact va_Nw.of rfl h2
    | _ => cases h1
/-- THE CLAIM'S WALK out of a run of the law's table on the abstract machine -/
theorem start_of {p : Program} {e : Env} {s : State} {m : MethodId} {below : List Frame} {meth : Method} {c : Code} (l : Launch) {b L : Nat} {xs : Nat → Int32} (hL : L ≤ 2048) (C0 : lw_At p s m meth c b L xs) (hrun : ∃ n H', aX (lk tLaw) (mM 10) n 0 [(0, .ref (aBig + 9))] [] (H0 L xs) (some (.int 1)) H' ∧ H'.1 ≤ 600000 ∧ H'.2.1 ≤ 7302250) : W p l e room_1 s m #[Value.ref b] below meth c s.heap [] 0 0 (lw_Z below #[Value.ref b] s) (entryFrame m ([Value.ref b] : List Value).toArray 4) := by
  obtain ⟨D, cy, st, h9, henv⟩ := env_start hL C0
  obtain ⟨n, H', hX, hc, hs⟩ := hrun
  obtain ⟨hx, hb, hr, hml, hown, hts, hXb, hbl, hlocks, hgv⟩ := C0
  have C : Cx cL_law 4 RL meth.name D cy s.heap.size st (sLen L) (sVal xs) p room_1 s m #[Value.ref b] meth c := ⟨hx, hb, hml, hown, fun w hw => hts w (List.mem_filter.mp hw).1, henv, Nat.le_refl _, hlocks, rfl, by decide, by decide⟩
  have hl := lv_entry ([.ref b]) (n := 4) (Nat.le_of_ble_eq_true rfl)
  rw [lg_entry_eq]
  have hsim : Sim D cy s.heap.size st (sLen L) (sVal xs) (H0 L xs) s.heap := by
    refine ⟨rfl, by decide, fun k hk => absurd hk (Nat.not_lt_zero k), fun j _ => ?_⟩
    show (Sum.inl (1, sLen L (aBig + j - aBig), Sum.inl (sVal xs (aBig + j - aBig))) : aE) = _
    rw [Nat.add_sub_cancel_left]
  have k := bodyL (e := e) (below := below) C rfl hr hc hs n 0 _ _ _ hX s.heap [] _ hsim va_S.rf (by
    have e1 : cvL s.heap.size st [(0, Value.ref (aBig + 9))] = [(0, Value.ref b)] := by
      show [(0, cv s.heap.size st (.ref (aBig + 9)))] = _
      rw [cv_sref, h9]
    rw [e1]
    exact hl)
  exact k
