/-! RUNS, goal first: what a run of a table comes to -/
def WX (tb : aT) (o : aO) (Ψ : Option Value → aH → Prop) (pc : Nat) (L : aL) (S : List Value) (H : aH) : Prop := ∃ n r H', aX tb o n pc L S H r H' ∧ Ψ r H'
def WO (o : aO) (y : Nat) (vs : List Value) (H : aH) (Ψ : Option Value → aH → Prop) : Prop := ∃ r H', o y vs H r H' ∧ Ψ r H'
section WXrows
variable {tb : aT} {o : aO} {Ψ : Option Value → aH → Prop} {pc : Nat} {L : aL} {S : List Value} {H : aH}
theorem WX.st {f : aF} {x : aS} (h : tb pc = some (.inl f)) (hf : f L S H = some x) (k : WX tb o Ψ x.1 x.2.1 x.2.2.1 x.2.2.2) : WX tb o Ψ pc L S H := by
  obtain ⟨n, r, H', hx, hp⟩ := k
  refine ⟨n + 1, r, H', ?_, hp⟩
  unfold aX
  rw [h]
  dsimp only
  rw [hf]
  exact hx
theorem WX.call {y k c : Nat} (h : tb pc = some (.inr (.inl (y, k, c)))) (hk : k ≤ S.length) (h8 : ((S.drop k).map Value.category).sum ≤ 8) (hr : rcv c (S.take k).reverse H = true) (w : WO o y (S.take k).reverse H (fun r1 H1 => WX tb o Ψ (pc + 3) L (r1.toList ++ S.drop k) H1)) : WX tb o Ψ pc L S H := by
  obtain ⟨r1, H1, ho, n, r, H', hx, hp⟩ := w
  refine ⟨n + 1, r, H', ?_, hp⟩
  unfold aX
  rw [h]
  exact ⟨hk, h8, hr, r1, H1, ho, hx⟩
theorem WX.ret0 (h : tb pc = some (.inr (.inr 0))) (hp : Ψ none H) : WX tb o Ψ pc L [] H := by
  refine ⟨1, none, H, ?_, hp⟩
  unfold aX
  rw [h]
  exact ⟨⟨rfl, rfl⟩, rfl⟩
theorem WX.ret1 {v : Int32} (h : tb pc = some (.inr (.inr 1))) (hp : Ψ (some (.int v)) H) : WX tb o Ψ pc L [.int v] H := by
  refine ⟨1, some (.int v), H, ?_, hp⟩
  unfold aX
  rw [h]
  exact ⟨⟨_, rfl, rfl, fun _ => ⟨v, rfl⟩, (fun h => by cases h), (fun h => by cases h)⟩, rfl⟩
theorem WX.ret2 {v : Int64} (h : tb pc = some (.inr (.inr 2))) (hp : Ψ (some (.long v)) H) : WX tb o Ψ pc L [.long v] H := by
  refine ⟨1, some (.long v), H, ?_, hp⟩
  unfold aX
  rw [h]
  exact ⟨⟨_, rfl, rfl, (fun h => by cases h), fun _ => ⟨v, rfl⟩, (fun h => by cases h)⟩, rfl⟩
theorem WX.ret3 {v : Int32} (h : tb pc = some (.inr (.inr 3))) (hv : v = 0 ∨ v = 1) (hp : Ψ (some (.int v)) H) : WX tb o Ψ pc L [.int v] H := by
  refine ⟨1, some (.int v), H, ?_, hp⟩
  unfold aX
  rw [h]
  exact ⟨⟨_, rfl, rfl, (fun h => by cases h), (fun h => by cases h), fun _ => by rcases hv with rfl | rfl <;> first | exact Or.inl rfl | exact Or.inr rfl⟩, rfl⟩
theorem WX.if_ {c : Int32 → Prop} [DecidablePred c] {t nx : Nat} {x : Int32} (h : tb pc = some (.inl (a_if c t nx))) (kt : c x → WX tb o Ψ t L S H) (kf : ¬ c x → WX tb o Ψ nx L S H) : WX tb o Ψ pc L (.int x :: S) H := by
  by_cases hc : c x
  · refine WX.st h (x := (t, L, S, H)) ?_ (kt hc)
    show some ((if c x then t else nx), L, S, H) = _
    rw [if_pos hc]
  · refine WX.st h (x := (nx, L, S, H)) ?_ (kf hc)
    show some ((if c x then t else nx), L, S, H) = _
    rw [if_neg hc]
theorem WX.icmp {c : Int32 → Int32 → Prop} [∀ x y, Decidable (c x y)] {t nx : Nat} {x y : Int32} (h : tb pc = some (.inl (a_ic2 c t nx))) (kt : c x y → WX tb o Ψ t L S H) (kf : ¬ c x y → WX tb o Ψ nx L S H) : WX tb o Ψ pc L (.int y :: .int x :: S) H := by
  by_cases hc : c x y
  · refine WX.st h (x := (t, L, S, H)) ?_ (kt hc)
    show some ((if c x y then t else nx), L, S, H) = _
    rw [if_pos hc]
  · refine WX.st h (x := (nx, L, S, H)) ?_ (kf hc)
    show some ((if c x y then t else nx), L, S, H) = _
    rw [if_neg hc]
theorem WX.get {ci k nx a : Nat} {fs : List Value} {v : Value} (h : tb pc = some (.inl (a_get ci k nx))) (ha : a < H.1) (he : H.2.2 a = .inr (ci, fs)) (hv : fs[k]? = some v) (kk : WX tb o Ψ nx L (v :: S) H) : WX tb o Ψ pc L (.ref a :: S) H := by
  refine WX.st h (x := (nx, L, v :: S, H)) ?_ kk
  unfold a_get
  dsimp only
  rw [if_pos ha, he]
  dsimp only
  rw [if_pos rfl, hv]
theorem WX.put {ci k nx a : Nat} {ty : FieldType} {fs : List Value} {v : Value} (h : tb pc = some (.inl (a_put ci k ty nx))) (ha : a < H.1) (he : H.2.2 a = .inr (ci, fs)) (hk : k < fs.length) (hf : fits ty v = true) (kk : WX tb o Ψ nx L S (H.1, H.2.1, va_up H.2.2 a (.inr (ci, fs.set k v)))) : WX tb o Ψ pc L (v :: .ref a :: S) H := by
  refine WX.st h (x := (nx, L, S, H.1, H.2.1, va_up H.2.2 a (.inr (ci, fs.set k v)))) ?_ kk
  unfold a_put
  dsimp only
  rw [if_pos ha, he]
  dsimp only
  rw [if_pos rfl, if_pos hk, if_pos hf]
theorem WX.iald {nx a n : Nat} {f : Nat → Int32} {i : Int32} (h : tb pc = some (.inl (a_iald nx))) (ha : a < H.1 ∨ aBig ≤ a ∧ a < aBig + 10) (he : H.2.2 a = .inl (1, n, .inl f)) (hi : vp_in i n) (kk : WX tb o Ψ nx L (.int (f i.toNatClampNeg) :: S) H) : WX tb o Ψ pc L (.int i :: .ref a :: S) H := by
  refine WX.st h (x := (nx, L, .int (f i.toNatClampNeg) :: S, H)) ?_ kk
  unfold a_iald
  dsimp only
  rw [he]
  dsimp only
  rw [if_pos ⟨ha, rfl, hi⟩]
theorem WX.bald {nx a n : Nat} {f : Nat → Int32} {i : Int32} (h : tb pc = some (.inl (a_bald nx))) (ha : a < H.1) (he : H.2.2 a = .inl (0, n, .inl f)) (hi : vp_in i n) (kk : WX tb o Ψ nx L (.int (f i.toNatClampNeg) :: S) H) : WX tb o Ψ pc L (.int i :: .ref a :: S) H := by
  refine WX.st h (x := (nx, L, .int (f i.toNatClampNeg) :: S, H)) ?_ kk
  unfold a_bald
  dsimp only
  rw [he]
  dsimp only
  rw [if_pos ⟨ha, rfl, hi⟩]
theorem WX.zald {nx a n : Nat} {f : Nat → Int32} {i : Int32} (h : tb pc = some (.inl (a_zald nx))) (ha : a < H.1) (he : H.2.2 a = .inl (3, n, .inl f)) (hi : vp_in i n) (kk : WX tb o Ψ nx L (.int (f i.toNatClampNeg) :: S) H) : WX tb o Ψ pc L (.int i :: .ref a :: S) H := by
  refine WX.st h (x := (nx, L, .int (f i.toNatClampNeg) :: S, H)) ?_ kk
  unfold a_zald
  dsimp only
  rw [he]
  dsimp only
  rw [if_pos ⟨ha, rfl, hi⟩]
theorem WX.lald {nx a n : Nat} {f : Nat → Int64} {i : Int32} (h : tb pc = some (.inl (a_lald nx))) (ha : a < H.1) (he : H.2.2 a = .inl (2, n, .inr (.inl f))) (hi : vp_in i n) (kk : WX tb o Ψ nx L (.long (f i.toNatClampNeg) :: S) H) : WX tb o Ψ pc L (.int i :: .ref a :: S) H := by
  refine WX.st h (x := (nx, L, .long (f i.toNatClampNeg) :: S, H)) ?_ kk
  unfold a_lald
  dsimp only
  rw [he]
  dsimp only
  rw [if_pos ⟨ha, rfl, hi⟩]
theorem WX.iast {nx a n : Nat} {f : Nat → Int32} {i v : Int32} (h : tb pc = some (.inl (a_iast nx))) (ha : a < H.1) (he : H.2.2 a = .inl (1, n, .inl f)) (hi : vp_in i n) (kk : WX tb o Ψ nx L S (H.1, H.2.1, va_up H.2.2 a (.inl (1, n, .inl (upd f i.toNatClampNeg v))))) : WX tb o Ψ pc L (.int v :: .int i :: .ref a :: S) H := by
  refine WX.st h (x := (nx, L, S, H.1, H.2.1, va_up H.2.2 a (.inl (1, n, .inl (upd f i.toNatClampNeg v))))) ?_ kk
  unfold a_iast
  dsimp only
  rw [he]
  dsimp only
  rw [if_pos ⟨ha, rfl, hi⟩]
theorem WX.bast {nx a n : Nat} {f : Nat → Int32} {i v : Int32} (h : tb pc = some (.inl (a_bast nx))) (ha : a < H.1) (he : H.2.2 a = .inl (0, n, .inl f)) (hi : vp_in i n) (kk : WX tb o Ψ nx L S (H.1, H.2.1, va_up H.2.2 a (.inl (0, n, .inl (upd f i.toNatClampNeg v.toInt8.toInt32))))) : WX tb o Ψ pc L (.int v :: .int i :: .ref a :: S) H := by
  refine WX.st h (x := (nx, L, S, H.1, H.2.1, va_up H.2.2 a (.inl (0, n, .inl (upd f i.toNatClampNeg v.toInt8.toInt32))))) ?_ kk
  unfold a_bast
  dsimp only
  rw [he]
  dsimp only
  rw [if_pos ⟨ha, rfl, hi⟩]
theorem WX.zast {nx a n : Nat} {f : Nat → Int32} {i v : Int32} (h : tb pc = some (.inl (a_zast nx))) (ha : a < H.1) (he : H.2.2 a = .inl (3, n, .inl f)) (hi : vp_in i n) (kk : WX tb o Ψ nx L S (H.1, H.2.1, va_up H.2.2 a (.inl (3, n, .inl (upd f i.toNatClampNeg (v &&& 1)))))) : WX tb o Ψ pc L (.int v :: .int i :: .ref a :: S) H := by
  refine WX.st h (x := (nx, L, S, H.1, H.2.1, va_up H.2.2 a (.inl (3, n, .inl (upd f i.toNatClampNeg (v &&& 1)))))) ?_ kk
  unfold a_zast
  dsimp only
  rw [he]
  dsimp only
  rw [if_pos ⟨ha, rfl, hi⟩]
theorem WX.last {nx a n : Nat} {f : Nat → Int64} {i : Int32} {v : Int64} (h : tb pc = some (.inl (a_last nx))) (ha : a < H.1) (he : H.2.2 a = .inl (2, n, .inr (.inl f))) (hi : vp_in i n) (kk : WX tb o Ψ nx L S (H.1, H.2.1, va_up H.2.2 a (.inl (2, n, .inr (.inl (vp_updL f i.toNatClampNeg v)))))) : WX tb o Ψ pc L (.long v :: .int i :: .ref a :: S) H := by
  refine WX.st h (x := (nx, L, S, H.1, H.2.1, va_up H.2.2 a (.inl (2, n, .inr (.inl (vp_updL f i.toNatClampNeg v)))))) ?_ kk
  unfold a_last
  dsimp only
  rw [he]
  dsimp only
  rw [if_pos ⟨ha, rfl, hi⟩]
theorem WX.len {nx a t n : Nat} {x : (Nat → Int32) ⊕ (Nat → Int64) ⊕ (Nat → UInt32) ⊕ (Nat → UInt64) ⊕ (Nat → Option Nat)} (h : tb pc = some (.inl (a_len nx))) (ha : a < H.1 ∧ t < 4 ∨ aBig ≤ a ∧ a < aBig + 10) (he : H.2.2 a = .inl (t, n, x)) (kk : WX tb o Ψ nx L (.int (nI n) :: S) H) : WX tb o Ψ pc L (.ref a :: S) H := by
  refine WX.st h (x := (nx, L, .int (nI n) :: S, H)) ?_ kk
  unfold a_len
  dsimp only
  rw [he]
  dsimp only
  rw [if_pos ha]
  rfl
theorem WX.div {op : Int32 → Int32 → Int32} {nx : Nat} {x y : Int32} (h : tb pc = some (.inl (a_id op nx))) (hy : ¬ y = 0) (kk : WX tb o Ψ nx L (.int (op x y) :: S) H) : WX tb o Ψ pc L (.int y :: .int x :: S) H := by
  refine WX.st h (x := (nx, L, .int (op x y) :: S, H)) ?_ kk
  unfold a_id
  dsimp only
  rw [if_pos hy]
theorem WX.newa {t nx N : Nat} {n : Int32} (h : tb pc = some (.inl (a_newa t nx))) (hn : n = nI N) (hN : N ≤ 60000000) (hb : H.1 + 1 < aBig) (kk : WX tb o Ψ nx L (.ref H.1 :: S) (H.1 + 1, H.2.1 + N, va_up H.2.2 H.1 (.inl (t, N, zrow t)))) : WX tb o Ψ pc L (.int n :: S) H := by
  have e : n.toNatClampNeg = N := by rw [hn]; exact nI_clamp (by omega)
  refine WX.st h (x := (nx, L, .ref H.1 :: S, H.1 + 1, H.2.1 + N, va_up H.2.2 H.1 (.inl (t, N, zrow t)))) ?_ kk
  unfold a_newa
  dsimp only
  rw [e, if_pos ⟨by rw [hn]; exact nI_pos (by omega), hN, hb⟩]
theorem WX.new_ {ci N nx : Nat} {fs : List Value} (h : tb pc = some (.inl (a_new ci N fs nx))) (hb : H.1 + 1 < aBig) (kk : WX tb o Ψ nx L (.ref H.1 :: S) (H.1 + 1, H.2.1 + N, va_up H.2.2 H.1 (.inr (ci, fs)))) : WX tb o Ψ pc L S H := by
  refine WX.st h (x := (nx, L, .ref H.1 :: S, H.1 + 1, H.2.1 + N, va_up H.2.2 H.1 (.inr (ci, fs)))) ?_ kk
  unfold a_new
  rw [if_pos hb]
theorem WX.copy {t nx a b na nb : Nat} {f g : Nat → Int32} {sp dp n : Int32} (h : tb pc = some (.inl (a_copy t nx))) (h8 : (S.map Value.category).sum ≤ 8) (ha : a < H.1 ∨ aBig ≤ a ∧ a < aBig + 10) (hea : H.2.2 a = .inl (t, na, .inl f)) (hb : b < H.1) (heb : H.2.2 b = .inl (t, nb, .inl g)) (h1 : ¬ sp < 0) (h2 : ¬ dp < 0) (h3 : ¬ n < 0) (h4 : sp.toNatClampNeg + n.toNatClampNeg ≤ na) (h5 : dp.toNatClampNeg + n.toNatClampNeg ≤ nb) (kk : WX tb o Ψ nx L S (H.1, H.2.1, va_up H.2.2 b (.inl (t, nb, .inl (va_cpy f g sp.toNatClampNeg dp.toNatClampNeg n.toNatClampNeg))))) : WX tb o Ψ pc L (.int n :: .int dp :: .ref b :: .int sp :: .ref a :: S) H := by
  refine WX.st h (x := (nx, L, S, H.1, H.2.1, va_up H.2.2 b (.inl (t, nb, .inl (va_cpy f g sp.toNatClampNeg dp.toNatClampNeg n.toNatClampNeg))))) ?_ kk
  unfold a_copy
  dsimp only
  rw [hea, heb]
  dsimp only
  rw [if_pos ⟨h8, ha, rfl, hb, rfl, h1, h2, h3, h4, h5⟩]
end WXrows
theorem WO.of {d y : Nat} {vs : List Value} {H : aH} {Ψ : Option Value → aH → Prop} (hc : (vs.map Value.category).sum ≤ mL y) (k : WX (mT y) (mM d) Ψ 0 (lv_args 0 vs) [] H) : WO (mM (d + 1)) y vs H Ψ := by
  obtain ⟨n, r, H', hx, hp⟩ := k
  exact ⟨r, H', ⟨hc, n, hx⟩, hp⟩
theorem WO.imp {o : aO} {y : Nat} {vs : List Value} {H : aH} {Φ Ψ : Option Value → aH → Prop} (h : WO o y vs H Φ) (k : ∀ r H', Φ r H' → Ψ r H') : WO o y vs H Ψ := by
  obtain ⟨r, H', ho, hp⟩ := h
  exact ⟨r, H', ho, k r H' hp⟩
theorem va_up_eq {f : Nat → aE} {k : Nat} {v : aE} : va_up f k v k = v := by simp only [va_up, if_pos]
theorem va_up_neq {f : Nat → aE} {k j : Nat} {v : aE} (h : j ≠ k) : va_up f k v j = f j := by simp only [va_up, if_neg h]
section WXnamed
variable {tb : aT} {o : aO} {Ψ : Option Value → aH → Prop} {pc : Nat} {L : aL} {S : List Value} {H : aH} {n s : Nat} {h : Nat → aE}
theorem WX.s1 {f : aF} {pc' : Nat} {L' : aL} {S' : List Value} {H' : aH} (hh : tb pc = some (.inl f)) (hf : f L S H = some (pc', L', S', H')) (k : WX tb o Ψ pc' L' S' H') : WX tb o Ψ pc L S H := WX.st hh hf k
theorem WX.isN {i nx : Nat} {v : Int32} {L' : Int32 → aL} (hh : tb pc = some (.inl (a_is i nx))) (hl : ∀ x, lset1 L i (.int x) = L' x) (k : ∀ x, x = v → WX tb o Ψ nx (L' x) S H) : WX tb o Ψ pc L (.int v :: S) H := WX.st hh (x := (nx, L' v, S, H)) (by show some _ = _; rw [hl]) (k v rfl)
theorem WX.lsN {i nx : Nat} {v : Int64} {L' : Int64 → aL} (hh : tb pc = some (.inl (a_lst i nx))) (hl : ∀ x, lset2 L i (.long x) = L' x) (k : ∀ x, x = v → WX tb o Ψ nx (L' x) S H) : WX tb o Ψ pc L (.long v :: S) H := WX.st hh (x := (nx, L' v, S, H)) (by show some _ = _; rw [hl]) (k v rfl)
theorem WX.asN {i nx a : Nat} {L' : aL} (hh : tb pc = some (.inl (a_as i nx))) (hl : lset1 L i (.ref a) = L') (k : WX tb o Ψ nx L' S H) : WX tb o Ψ pc L (.ref a :: S) H := WX.st hh (x := (nx, L', S, H)) (by show some _ = _; rw [hl]) k
theorem WX.incN {i nx : Nat} {v m : Int32} {L' : Int32 → aL} (hh : tb pc = some (.inl (a_inc i m nx))) (hg : lget L i = some (.int v)) (hl : ∀ x, lset1 L i (.int x) = L' x) (k : ∀ x, x = v + m → WX tb o Ψ nx (L' x) S H) : WX tb o Ψ pc L S H := WX.st hh (x := (nx, L' (v + m), S, H)) (by unfold a_inc; rw [hg]; dsimp only; rw [hl]) (k _ rfl)
theorem WX.get1 {ci k nx a : Nat} {fs : List Value} {v : Value} (hh : tb pc = some (.inl (a_get ci k nx))) (ha : a < n) (he : h a = .inr (ci, fs)) (hv : fs[k]? = some v) (kk : WX tb o Ψ nx L (v :: S) (n, s, h)) : WX tb o Ψ pc L (.ref a :: S) (n, s, h) := WX.get hh ha he hv kk
theorem WX.put1 {ci k nx a : Nat} {ty : FieldType} {fs fs' : List Value} {v : Value} (hh : tb pc = some (.inl (a_put ci k ty nx))) (ha : a < n) (he : h a = .inr (ci, fs)) (hk : k < fs.length) (hf : fits ty v = true) (hs : fs.set k v = fs') (kk : ∀ h', h' = va_up h a (.inr (ci, fs')) → WX tb o Ψ nx L S (n, s, h')) : WX tb o Ψ pc L (v :: .ref a :: S) (n, s, h) := WX.put hh ha he hk hf (kk _ (by rw [hs]))
theorem WX.putNI {ci k nx a : Nat} {fs : List Value} {fs' : Int32 → List Value} {v : Int32} (hh : tb pc = some (.inl (a_put ci k .int nx))) (ha : a < n) (he : h a = .inr (ci, fs)) (hk : k < fs.length) (hs : ∀ x, fs.set k (.int x) = fs' x) (kk : ∀ x h', x = v → h' = va_up h a (.inr (ci, fs' x)) → WX tb o Ψ nx L S (n, s, h')) : WX tb o Ψ pc L (.int v :: .ref a :: S) (n, s, h) := WX.put hh ha he hk rfl (kk v _ rfl (by rw [hs]))
theorem WX.putNL {ci k nx a : Nat} {fs : List Value} {fs' : Int64 → List Value} {v : Int64} (hh : tb pc = some (.inl (a_put ci k .long nx))) (ha : a < n) (he : h a = .inr (ci, fs)) (hk : k < fs.length) (hs : ∀ x, fs.set k (.long x) = fs' x) (kk : ∀ x h', x = v → h' = va_up h a (.inr (ci, fs' x)) → WX tb o Ψ nx L S (n, s, h')) : WX tb o Ψ pc L (.long v :: .ref a :: S) (n, s, h) := WX.put hh ha he hk rfl (kk v _ rfl (by rw [hs]))
theorem WX.len1 {nx a t m : Nat} {x : (Nat → Int32) ⊕ (Nat → Int64) ⊕ (Nat → UInt32) ⊕ (Nat → UInt64) ⊕ (Nat → Option Nat)} (hh : tb pc = some (.inl (a_len nx))) (ha : a < n ∧ t < 4 ∨ aBig ≤ a ∧ a < aBig + 10) (he : h a = .inl (t, m, x)) (kk : WX tb o Ψ nx L (.int (nI m) :: S) (n, s, h)) : WX tb o Ψ pc L (.ref a :: S) (n, s, h) := WX.len hh ha he kk
theorem WX.iald1 {nx a m : Nat} {f : Nat → Int32} {i : Int32} (hh : tb pc = some (.inl (a_iald nx))) (ha : a < n ∨ aBig ≤ a ∧ a < aBig + 10) (he : h a = .inl (1, m, .inl f)) (hi : vp_in i m) (kk : WX tb o Ψ nx L (.int (f i.toNatClampNeg) :: S) (n, s, h)) : WX tb o Ψ pc L (.int i :: .ref a :: S) (n, s, h) := WX.iald hh ha he hi kk
theorem WX.bald1 {nx a m : Nat} {f : Nat → Int32} {i : Int32} (hh : tb pc = some (.inl (a_bald nx))) (ha : a < n) (he : h a = .inl (0, m, .inl f)) (hi : vp_in i m) (kk : WX tb o Ψ nx L (.int (f i.toNatClampNeg) :: S) (n, s, h)) : WX tb o Ψ pc L (.int i :: .ref a :: S) (n, s, h) := WX.bald hh ha he hi kk
theorem WX.zald1 {nx a m : Nat} {f : Nat → Int32} {i : Int32} (hh : tb pc = some (.inl (a_zald nx))) (ha : a < n) (he : h a = .inl (3, m, .inl f)) (hi : vp_in i m) (kk : WX tb o Ψ nx L (.int (f i.toNatClampNeg) :: S) (n, s, h)) : WX tb o Ψ pc L (.int i :: .ref a :: S) (n, s, h) := WX.zald hh ha he hi kk
theorem WX.lald1 {nx a m : Nat} {f : Nat → Int64} {i : Int32} (hh : tb pc = some (.inl (a_lald nx))) (ha : a < n) (he : h a = .inl (2, m, .inr (.inl f))) (hi : vp_in i m) (kk : WX tb o Ψ nx L (.long (f i.toNatClampNeg) :: S) (n, s, h)) : WX tb o Ψ pc L (.int i :: .ref a :: S) (n, s, h) := WX.lald hh ha he hi kk
theorem WX.iastN {nx a m : Nat} {f : Nat → Int32} {i v : Int32} (hh : tb pc = some (.inl (a_iast nx))) (ha : a < n) (he : h a = .inl (1, m, .inl f)) (hi : vp_in i m) (kk : ∀ g h', g = upd f i.toNatClampNeg v → h' = va_up h a (.inl (1, m, .inl g)) → WX tb o Ψ nx L S (n, s, h')) : WX tb o Ψ pc L (.int v :: .int i :: .ref a :: S) (n, s, h) := WX.iast hh ha he hi (kk _ _ rfl rfl)
theorem WX.bastN {nx a m : Nat} {f : Nat → Int32} {i v : Int32} (hh : tb pc = some (.inl (a_bast nx))) (ha : a < n) (he : h a = .inl (0, m, .inl f)) (hi : vp_in i m) (kk : ∀ g h', g = upd f i.toNatClampNeg v.toInt8.toInt32 → h' = va_up h a (.inl (0, m, .inl g)) → WX tb o Ψ nx L S (n, s, h')) : WX tb o Ψ pc L (.int v :: .int i :: .ref a :: S) (n, s, h) := WX.bast hh ha he hi (kk _ _ rfl rfl)
theorem WX.zastN {nx a m : Nat} {f : Nat → Int32} {i v : Int32} (hh : tb pc = some (.inl (a_zast nx))) (ha : a < n) (he : h a = .inl (3, m, .inl f)) (hi : vp_in i m) (kk : ∀ g h', g = upd f i.toNatClampNeg (v &&& 1) → h' = va_up h a (.inl (3, m, .inl g)) → WX tb o Ψ nx L S (n, s, h')) : WX tb o Ψ pc L (.int v :: .int i :: .ref a :: S) (n, s, h) := WX.zast hh ha he hi (kk _ _ rfl rfl)
theorem WX.lastN {nx a m : Nat} {f : Nat → Int64} {i : Int32} {v : Int64} (hh : tb pc = some (.inl (a_last nx))) (ha : a < n) (he : h a = .inl (2, m, .inr (.inl f))) (hi : vp_in i m) (kk : ∀ g h', g = vp_updL f i.toNatClampNeg v → h' = va_up h a (.inl (2, m, .inr (.inl g))) → WX tb o Ψ nx L S (n, s, h')) : WX tb o Ψ pc L (.long v :: .int i :: .ref a :: S) (n, s, h) := WX.last hh ha he hi (kk _ _ rfl rfl)
theorem WX.copyN {t nx a b na nb : Nat} {f g0 : Nat → Int32} {sp dp m : Int32} (hh : tb pc = some (.inl (a_copy t nx))) (h8 : (S.map Value.category).sum ≤ 8) (ha : a < n ∨ aBig ≤ a ∧ a < aBig + 10) (hea : h a = .inl (t, na, .inl f)) (hb : b < n) (heb : h b = .inl (t, nb, .inl g0)) {p q c : Nat} (h1 : sp = nI p) (h2 : dp = nI q) (h3 : m = nI c) (h4 : p + c ≤ na) (h5 : q + c ≤ nb) (hna : na < 2 ^ 31) (hnb : nb < 2 ^ 31) (kk : ∀ g h', g = va_cpy f g0 p q c → h' = va_up h b (.inl (t, nb, .inl g)) → WX tb o Ψ nx L S (n, s, h')) : WX tb o Ψ pc L (.int m :: .int dp :: .ref b :: .int sp :: .ref a :: S) (n, s, h) := by
  have e1 : sp.toNatClampNeg = p := by rw [h1]; exact nI_clamp (by omega)
  have e2 : dp.toNatClampNeg = q := by rw [h2]; exact nI_clamp (by omega)
  have e3 : m.toNatClampNeg = c := by rw [h3]; exact nI_clamp (by omega)
  refine WX.copy hh h8 ha hea hb heb (by rw [h1]; exact nI_pos (by omega)) (by rw [h2]; exact nI_pos (by omega)) (by rw [h3]; exact nI_pos (by omega)) (by rw [e1, e3]; exact h4) (by rw [e2, e3]; exact h5) ?_
  rw [e1, e2, e3]
  exact kk _ _ rfl rfl
end WXnamed
/-- the cells outside A are as they were -/
def Fr (h h' : Nat → aE) (A : Nat → Prop) : Prop := ∀ j, ¬ A j → h' j = h j
theorem Fr.rf {h : Nat → aE} {A : Nat → Prop} : Fr h h A := fun _ _ => rfl
theorem Fr.tr {h h1 h2 : Nat → aE} {A : Nat → Prop} (a : Fr h h1 A) (b : Fr h1 h2 A) : Fr h h2 A := fun j hj => (b j hj).trans (a j hj)
theorem Fr.mono {h h1 : Nat → aE} {A B : Nat → Prop} (a : Fr h h1 A) (hAB : ∀ j, A j → B j) : Fr h h1 B := fun j hj => a j (fun x => hj (hAB j x))
/-- a Row at cell k: its bytes at k + 1 -/
def RowAt (h : Nat → aE) (k N : Nat) (g : Nat → Int32) (u : Nat) (sp : Int32) (ho : Int64) (hd : Int32) : Prop := h k = .inr (7, [.ref (k + 1), .int (nI u), .int sp, .long ho, .int hd]) ∧ h (k + 1) = .inl (0, N, .inl g)
theorem RowAt.fr {h h1 : Nat → aE} {A : Nat → Prop} {k N : Nat} {g : Nat → Int32} {u : Nat} {sp hd : Int32} {ho : Int64} (r : RowAt h k N g u sp ho hd) (f : Fr h h1 A) (h0 : ¬ A k) (h2 : ¬ A (k + 1)) : RowAt h1 k N g u sp ho hd := ⟨(f k h0).trans r.1, (f (k + 1) h2).trans r.2⟩
theorem vp_b8 (v : Int32) : v.toInt8.toInt32.toInt8.toInt32 = v.toInt8.toInt32 := by rw [Int8.toInt8_toInt32]
theorem WX.newaN {tb : aT} {o : aO} {Ψ : Option Value → aH → Prop} {pc : Nat} {L : aL} {S : List Value} {n s : Nat} {h : Nat → aE} {t nx N : Nat} {m : Int32} {z0 : (Nat → Int32) ⊕ (Nat → Int64) ⊕ (Nat → UInt32) ⊕ (Nat → UInt64) ⊕ (Nat → Option Nat)} (hh : tb pc = some (.inl (a_newa t nx))) (hm : m = nI N) (hN : N ≤ 60000000) (hb : n + 1 < aBig) (hz : zrow t = z0) (kk : ∀ h', h' = va_up h n (.inl (t, N, z0)) → WX tb o Ψ nx L (.ref n :: S) (n + 1, s + N, h')) : WX tb o Ψ pc L (.int m :: S) (n, s, h) := WX.newa hh hm hN hb (by rw [hz]; exact kk _ rfl)
theorem WX.newN {tb : aT} {o : aO} {Ψ : Option Value → aH → Prop} {pc : Nat} {L : aL} {S : List Value} {n s : Nat} {h : Nat → aE} {ci N nx : Nat} {fs : List Value} (hh : tb pc = some (.inl (a_new ci N fs nx))) (hb : n + 1 < aBig) (kk : ∀ h', h' = va_up h n (.inr (ci, fs)) → WX tb o Ψ nx L (.ref n :: S) (n + 1, s + N, h')) : WX tb o Ψ pc L S (n, s, h) := WX.new_ hh hb (kk _ rfl)
theorem rcv_ok {c a n s : Nat} {h : Nat → aE} {fs vs : List Value} (ha : a < n) (he : h a = .inr (c, fs)) : rcv (c + 1) (.ref a :: vs) (n, s, h) = true := by
  show (decide (a < n) && _) = true
  rw [decide_eq_true ha, Bool.true_and]
  show (match h a with | .inr o => o.1 == c | .inl _ => false) = true
  rw [he]
  exact beq_self_eq_true c
/-- a call of a method by its contract -/
theorem WX.callC {tb : aT} {o : aO} {Ψ : Option Value → aH → Prop} {pc : Nat} {L : aL} {S vs rest : List Value} {H : aH} {y k c : Nat} (hh : tb pc = some (.inr (.inl (y, k, c)))) (hs : S = vs.reverse ++ rest) (hk : vs.length = k) (h8 : (rest.map Value.category).sum ≤ 8) (hr : rcv c vs H = true) (w : WO o y vs H (fun r1 H1 => WX tb o Ψ (pc + 3) L (r1.toList ++ rest) H1)) : WX tb o Ψ pc L S H := by
  have e1 : S.take k = vs.reverse := by rw [hs, ← hk, ← List.length_reverse, List.take_left']; rfl
  have e2 : S.drop k = rest := by rw [hs, ← hk, ← List.length_reverse, List.drop_left']; rfl
  refine WX.call hh (by rw [hs, ← hk, List.length_append, List.length_reverse]; exact Nat.le_add_right _ _) (by rw [e2]; exact h8) (by rw [e1, List.reverse_reverse]; exact hr) ?_
  rw [e1, e2, List.reverse_reverse]
  exact w
/-- locals that nobody reads any more may be forgotten -/
theorem WX.loc {y : Nat} {o : aO} {Ψ : Option Value → aH → Prop} {pc : Nat} {L L' : aL} {S : List Value} {H : aH} (hn : keysNd L') (hs : ∀ q ∈ L, q ∈ L') (k : WX (mT y) o Ψ pc L S H) : WX (mT y) o Ψ pc L' S H := by
  obtain ⟨n, r, H', hx, hp⟩ := k
  exact ⟨n, r, H', aX_loc (fun pc f hpc => (allOk y pc _ hpc).1.1) n pc L L' S H r H' hn hs hx, hp⟩
theorem WX.keep {y : Nat} {o : aO} {Ψ : Option Value → aH → Prop} {pc : Nat} {L L' : aL} {S : List Value} {H : aH} (ks : List Nat) (hn : (L'.map Prod.fst).Nodup) (hL : L'.filter (fun q => ks.contains q.1) = L) (k : WX (mT y) o Ψ pc L S H) : WX (mT y) o Ψ pc L' S H := WX.loc hn (fun q hq => by rw [← hL] at hq; exact (List.mem_filter.mp hq).1) k
theorem nek {k a b : Nat} (h : a ≠ b) : k + a ≠ k + b := fun e => h (Nat.add_left_cancel e)
theorem nek0 {k a : Nat} (h : a ≠ 0) : k + a ≠ k := fun e => h (Nat.add_left_cancel (k := 0) e)
theorem nek1 {k a : Nat} (h : a ≠ 0) : k ≠ k + a := fun e => nek0 h e.symm
theorem frne {j k a N : Nat} (hj : j < k ∨ aBig ≤ j) (hb : k + N < aBig) (ha : a ≤ N) : j ≠ k + a := fun e => by
  subst e
  rcases hj with q | q
  · exact absurd q (Nat.not_lt.mpr (Nat.le_add_right _ _))
  · exact absurd (Nat.lt_of_le_of_lt (Nat.add_le_add_left ha k) hb) (Nat.not_lt.mpr q)
theorem frne0 {j k N : Nat} (hj : j < k ∨ aBig ≤ j) (hb : k + N < aBig) : j ≠ k := frne (a := 0) hj hb (Nat.zero_le _)
theorem ltk {k a c : Nat} (h : a < c) : k + a < k + c := Nat.add_lt_add_left h k
theorem ltk0 {k c : Nat} (h : 0 < c) : k < k + c := Nat.lt_add_of_pos_right h
theorem bigk {k a N : Nat} (hb : k + N < aBig) (ha : a ≤ N) : k + a < aBig := Nat.lt_of_le_of_lt (Nat.add_le_add_left ha k) hb
abbrev inSk (k : Nat) : Nat → Prop := fun j => k ≤ j ∧ j ≤ k + 6
theorem insNo {k a b : Nat} (h : a < b ∨ b + 6 < a) : ¬ inSk (k + b) (k + a) := fun z => by
  rcases h with q | q
  · exact absurd z.1 (Nat.not_le.mpr (ltk q))
  · have : k + a ≤ k + (b + 6) := z.2
    exact absurd this (Nat.not_le.mpr (ltk q))
