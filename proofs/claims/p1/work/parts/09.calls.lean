theorem callStep {cc : ByteArray} {nL : Nat} {own nm : String} {D : va_G} {cy : Nat → ClassId} {z : Nat} {st sl : Nat → Nat} {sx : Nat → Nat → Int32} {n0 s0 : Nat} {p : Program} {l : Launch} {e : Env} {R : Room} {s : State} {m : MethodId} {args : Array Value} {below : List Frame} {meth : Method} {c : Code} {Q : State → Prop} (C : Cx cc nL own nm D cy z st sl sx p R s m args meth c)
    {y : MethodName} {bytes : ByteArray} {maxL : Nat} {ret : Option FieldType} {k ct pc d : Nat} (hO : OkC own cc pc y bytes maxL ret k ct) (hR : d + 1 ≤ R.frames ∧ 34 * (d + 1) ≤ R.locals) {vs : List Value} {H H1 : aH} {r1 : Option Value}
    (hM : Met l y (Cond.code y bytes maxL ret :: TBg) (Rm d (H1.1 - H.1) (H1.2.1 - H.2.1)) (Prc D cy z st sl sx vs H) (Pst D cy z st sl sx r1 H1) (H1.1 - H.1) (H1.2.1 - H.2.1) (aA z)) (hm : H.1 ≤ H1.1 ∧ H.2.1 ≤ H1.2.1) (h1 : n0 ≤ H.1) (h2 : s0 ≤ H.2.1) (h3 : H1.1 ≤ n0 + R.cells) (h4 : H1.2.1 ≤ s0 + R.slots)
    {L : aL} {S : List Value} (hk : k ≤ S.length) (h8 : ((S.drop k).map Value.category).sum ≤ 8) (hrc : rcv ct vs H = true) (hvs : vs = (S.take k).reverse) (kk : Wg D cy z st sl sx nL n0 s0 p l e R s m args below meth c Q (pc + 3) L (r1.toList ++ S.drop k) H1) : Wg D cy z st sl sx nL n0 s0 p l e R s m args below meth c Q pc L S H := by
  intro Hp locs ls hs hS hl
  obtain ⟨hcode, hini, hy, hmax, hcall⟩ := hO
  have hstk : S.map (cv z st) = (vs.map (cv z st)).reverse ++ (S.drop k).map (cv z st) := by
    rw [hvs, ← List.map_reverse, List.reverse_reverse, ← List.map_append, List.take_append_drop]
  have hvl : vs.length = k := by rw [hvs, List.length_reverse, List.length_take, Nat.min_eq_left hk]
  have hpre : ∀ U : State, U.heap = Hp → s.WarmedH U.vm → Prc D cy z st sl sx vs H (vs.map (cv z st)).toArray U := fun U hU hW => ⟨rfl, by rw [hU]; exact hs, C.2.2.2.2.2.1.moved hW.alike (NW_warm hW) (fun q q1 q2 => by rw [hU]; exact hS.2.1 q q1 q2)⟩
  have hws : ∀ w ∈ (Cond.code y bytes maxL ret :: TBg), ∀ (a' : Array Value) (U : State), s.WarmedH U.vm → w.before a' U = true := pay_in C.2.2.2.2.1 (TBg_in hcode)
  have fix : CallFix p m c cc nL s args TBg own := ⟨C.1, C.2.1, C.2.2.1, C.2.2.2.1, C.2.2.2.2.1⟩
  have hroom : (Rm d (H1.1 - H.1) (H1.2.1 - H.2.1)).frames + 1 ≤ R.frames ∧ 8 + (maxL + 11) + (Rm d (H1.1 - H.1) (H1.2.1 - H.2.1)).locals ≤ R.locals := ⟨hR.1, by have := hR.2; show 8 + (maxL + 11) + 34 * d ≤ R.locals; omega⟩
  have hcs : H.1 - n0 + (H1.1 - H.1) ≤ R.cells ∧ H.2.1 - s0 + (H1.2.1 - H.2.1) ≤ R.slots := ⟨by omega, by omega⟩
  have hlen : ∀ n, (parseMethodDescriptor y.desc).map (fun d => d.parameters.length) = some n → ∀ sig, parseMethodDescriptor y.desc = some sig → n = sig.parameters.length := fun n h sig hs => by
    rw [hs] at h
    exact (Option.some.inj h).symm
  have h8' : 2 * (F0 m pc ls (S.map (cv z st))).monitorRoom + ((((S.drop k).map (cv z st))).map fun v => v.category).sum ≤ 8 := lv_room (by rw [sum_cv]; exact h8)
  have run : va_Run p l e R s m args below meth c Hp locs (H.1 - n0) (H.2.1 - s0) (H1.1 - H.1) (H1.2.1 - H.2.1) (F0 m pc ls (S.map (cv z st))) ((S.drop k).map (cv z st)) (Pst D cy z st sl sx r1 H1 (vs.map (cv z st)).toArray) (aA z) := by
    rcases hcall with ⟨i, n, rfl, rfl, hd, hdg, hstat, hlink⟩ | ⟨i, n, ci, T, N, rfl, rfl, hci, hd, hdg, hinst, hsel, hlink⟩ | ⟨i, n, ci, rfl, rfl, rfl, hin, hd, hdg, hinst, hlink⟩
    · rcases hlink with hlink | ⟨host, hlink⟩
      · exact va_runS (g := F0 m pc ls (S.map (cv z st))) fix hM ⟨⟨rfl, rfl, hroom.1, hroom.2, hws, List.mem_cons_self, C.2.2.2.2.1 _ hcode, C.2.2.2.2.1 _ hini, hy, hlen _ hd, C.2.2.2.2.1 _ hlink⟩, C.2.2.2.2.1 _ hstat⟩ ⟨Prc_blind, hpre⟩ rfl (by rw [List.length_map]; exact hvl) hl.1 hstk h8' hdg hcs
      · exact va_runSN (g := F0 m pc ls (S.map (cv z st))) (host := host) fix hM ⟨⟨⟨rfl, rfl, hroom.1, hroom.2, hws, List.mem_cons_self⟩, C.2.2.2.2.1 _ hcode, C.2.2.2.2.1 _ hini, hy, hlen _ hd, va_Nw.use rfl (C.2.2.2.2.2.1.2.2.2 _ hlink)⟩, C.2.2.2.2.1 _ hstat, trivial⟩ ⟨Prc_blind, hpre⟩ rfl (by rw [List.length_map]; exact hvl) hl.1 hstk h8' hdg hcs
    · obtain ⟨a, fs, vs1, rfl, ha, he⟩ := rcv_inv hrc
      have hat := (hs.2.2.1 a ha).1
      rw [he] at hat
      have hrecv := va_recv C.2.2.2.2.2.1.1 (hs.at_ ha) (ci := ci) (q0 := 0) hci (by rw [he]; rfl)
      have hpre' := hpre
      rw [List.map_cons, cv_ref (Nat.lt_trans ha hs.2.1)] at hpre' hstk
      rw [List.map_cons, cv_ref (Nat.lt_trans ha hs.2.1)]
      exact va_runV (g := F0 m pc ls (S.map (cv z st))) (C := y.cls) (b := z + a) (As := vs1.map (cv z st)) (rest := (S.drop (n + 1)).map (cv z st)) fix hM ⟨⟨rfl, rfl, hroom.1, hroom.2, hws, List.mem_cons_self, C.2.2.2.2.1 _ hcode, C.2.2.2.2.1 _ hini, hy, hlen _ hd, C.2.2.2.2.1 _ hlink⟩, C.2.2.2.2.1 _ hinst, C.2.2.2.2.1 _ hsel⟩ ⟨Prc_blind, hrecv, hpre'⟩ rfl (by rw [List.length_map]; simpa using hvl) hl.1 (by show S.map (cv z st) = _; rw [hstk, List.reverse_cons, List.append_assoc]; rfl) h8' hdg hcs
    · obtain ⟨a, fs, vs1, rfl, ha, he⟩ := rcv_inv hrc
      have hpre' := hpre
      rw [List.map_cons, cv_ref (Nat.lt_trans ha hs.2.1)] at hpre' hstk
      rw [List.map_cons, cv_ref (Nat.lt_trans ha hs.2.1)]
      rcases hlink with hlink | ⟨host, hlink⟩
      · exact va_runI (g := F0 m pc ls (S.map (cv z st))) (b := z + a) (As := vs1.map (cv z st)) (rest := (S.drop (n + 1)).map (cv z st)) fix hM ⟨⟨rfl, rfl, hroom.1, hroom.2, hws, List.mem_cons_self, C.2.2.2.2.1 _ hcode, C.2.2.2.2.1 _ hini, hy, hlen _ hd, C.2.2.2.2.1 _ hlink⟩, hin, C.2.2.2.2.1 _ hinst⟩ ⟨Prc_blind, hpre'⟩ rfl (by rw [List.length_map]; simpa using hvl) hl.1 (by show S.map (cv z st) = _; rw [hstk, List.reverse_cons, List.append_assoc]; rfl) h8' hdg hcs
      · exact va_runIN (g := F0 m pc ls (S.map (cv z st))) (host := host) (b := z + a) (As := vs1.map (cv z st)) (rest := (S.drop (n + 1)).map (cv z st)) fix hM ⟨⟨⟨rfl, rfl, hroom.1, hroom.2, hws, List.mem_cons_self⟩, C.2.2.2.2.1 _ hcode, C.2.2.2.2.1 _ hini, hy, hlen _ hd, va_Nw.use rfl (C.2.2.2.2.2.1.2.2.2 _ hlink)⟩, hin, C.2.2.2.2.1 _ hinst⟩ ⟨Prc_blind, hpre'⟩ rfl (by rw [List.length_map]; simpa using hvl) hl.1 (by show S.map (cv z st) = _; rw [hstk, List.reverse_cons, List.append_assoc]; rfl) h8' hdg hcs
  refine callW run (fun v s9 t Lx h0 hq hL => ?_)
  obtain ⟨hv, hsim, hF⟩ := hq
  cases hv
  have hS' : va_S (aA z) s.heap t.heap (locs ++ Lx) := by
    refine ⟨Nat.le_trans hS.1 (by rw [← h0]; exact hF.1), fun q q1 q2 => ?_, fun q hq => ?_⟩
    · rw [hF.2 q (by rw [h0]; exact Nat.lt_of_lt_of_le q1 hS.1) q2, h0]
      exact hS.2.1 q q1 q2
    · rcases List.mem_append.mp hq with h | h
      · exact hS.2.2 q h
      · exact hL q h
  have k1 := kk t.heap (locs ++ Lx) ls hsim hS' hl
  rw [show H1.1 - n0 = H.1 - n0 + (H1.1 - H.1) by omega, show H1.2.1 - s0 = H.2.1 - s0 + (H1.2.1 - H.2.1) by omega, List.map_append] at k1
  have e1 : (r1.map (cv z st)).toList = r1.toList.map (cv z st) := by cases r1 <;> rfl
  rw [e1]
  exact k1
/-- an entry of a method's table is one that the machine does -/
def OkI (mN : Nat → MethodName) (mC : Nat → ByteArray) (mL : Nat → Nat) (mR : Nat → Option FieldType) (y pc : Nat) : aI → Prop
  | .inl f => Okf (mC y) (mL y) (mN y).cls (mN y).name pc f
  | .inr (.inl q) => OkC (mN y).cls (mC y) pc (mN q.1) (mC q.1) (mL q.1) (mR q.1) q.2.1 q.2.2
  | .inr (.inr k) => (k = 0 ∧ mR y = none ∧ decode (mC y) pc = .ok (.return_, 1)) ∨ (k = 1 ∧ mR y = some .int ∧ decode (mC y) pc = .ok (.ireturn, 1)) ∨ (k = 2 ∧ mR y = some .long ∧ decode (mC y) pc = .ok (.lreturn, 1)) ∨ (k = 3 ∧ mR y = some .boolean ∧ decode (mC y) pc = .ok (.ireturn, 1))
def AllOk (mt : Nat → aT) (mN : Nat → MethodName) (mC : Nat → ByteArray) (mL : Nat → Nat) (mR : Nat → Option FieldType) : Prop := ∀ y pc i, mt y pc = some i → OkI mN mC mL mR y pc i ∧ plainName (mN y).cls = true
/-- no step takes a cell away -/
theorem aX_mono {tb : aT} {o : aO} (hf : ∀ pc f, tb pc = some (.inl f) → Mono f) (ho : ∀ y vs H r H', o y vs H r H' → H.1 ≤ H'.1 ∧ H.2.1 ≤ H'.2.1) : ∀ (n pc : Nat) (L : aL) (S : List Value) (H : aH) (r : Option Value) (H' : aH), aX tb o n pc L S H r H' → H.1 ≤ H'.1 ∧ H.2.1 ≤ H'.2.1
  | 0, _, _, _, _, _, _, h => h.elim
  | n + 1, pc, L, S, H, r, H', h => by
    unfold aX at h
    split at h
    · exact h.elim
    · rename_i f hpc
      split at h
      · exact h.elim
      · rename_i x hx
        have h1 := hf pc f hpc L S H x hx
        have h2 := aX_mono hf ho n _ _ _ _ _ _ h
        exact ⟨Nat.le_trans h1.1 h2.1, Nat.le_trans h1.2 h2.2⟩
    · obtain ⟨-, -, -, r1, H1, h1, h2⟩ := h
      have h1 := ho _ _ _ _ _ h1
      have h2 := aX_mono hf ho n _ _ _ _ _ _ h2
      exact ⟨Nat.le_trans h1.1 h2.1, Nat.le_trans h1.2 h2.2⟩
    · rw [h.2]
      exact ⟨Nat.le_refl _, Nat.le_refl _⟩
theorem aM_mono {mt : Nat → aT} {mN : Nat → MethodName} {mC : Nat → ByteArray} {mL : Nat → Nat} {mR : Nat → Option FieldType} (ha : AllOk mt mN mC mL mR) : ∀ (d y : Nat) (vs : List Value) (H : aH) (r : Option Value) (H' : aH), aM mt mL d y vs H r H' → H.1 ≤ H'.1 ∧ H.2.1 ≤ H'.2.1
  | 0, _, _, _, _, _, h => h.elim
  | d + 1, y, vs, H, r, H', h => by
    obtain ⟨-, n, h⟩ := h
    exact aX_mono (fun pc f hpc => (ha y pc _ hpc).1.2.1) (aM_mono ha d) n _ _ _ _ _ _ h
/-- more locals do no harm -/
theorem aX_loc {tb : aT} {o : aO} (hf : ∀ pc f, tb pc = some (.inl f) → LMono f) : ∀ (n pc : Nat) (L L' : aL) (S : List Value) (H : aH) (r : Option Value) (H' : aH), keysNd L' → (∀ q ∈ L, q ∈ L') → aX tb o n pc L S H r H' → aX tb o n pc L' S H r H'
  | 0, _, _, _, _, _, _, _, _, _, h => h.elim
  | n + 1, pc, L, L', S, H, r, H', hn, hs, h => by
    unfold aX at h ⊢
    split at h
    · exact h.elim
    · rename_i f hpc
      split at h
      · exact h.elim
      · rename_i x hx
        obtain ⟨L1, e1, s1, n1⟩ := hf pc f hpc L L' S H x hn hs hx
        rw [e1]
        exact aX_loc hf n _ _ _ _ _ _ _ n1 s1 h
    · obtain ⟨h1, h2, h3, r1, H1, h4, h5⟩ := h
      exact ⟨h1, h2, h3, r1, H1, h4, aX_loc hf n _ _ _ _ _ _ _ hn hs h5⟩
    · exact h
