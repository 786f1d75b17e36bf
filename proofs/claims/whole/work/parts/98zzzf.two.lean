/-! both objects in one word: what stands, the calls, that both answer alike -/
abbrev VS := Nat × Nat × Nat × List Nat × List Nat × List Nat × PkS × (Nat → Nat)
def SX (h : Nat → aE) (V : VS) : Prop := SPX h V.1 V.2.1 V.2.2.1 V.2.2.2.1 V.2.2.2.2.1 V.2.2.2.2.2.1 V.2.2.2.2.2.2.1 V.2.2.2.2.2.2.2
def RX (I : Nat → Int32) (A : Nat → Nat → Int32) (V : VS) : Prop := RfX I A V.1 V.2.1 V.2.2.1 V.2.2.2.1 V.2.2.2.2.1 V.2.2.2.2.2.1 V.2.2.2.2.2.2.1 V.2.2.2.2.2.2.2
def VOk (V : VS) : Prop := V.1 < 2 ^ 32 ∧ V.2.1 ≤ 3 ∧ 3 ≤ V.2.2.1 ∧ V.2.2.1 ≤ 8 ∧ PkOk V.2.2.2.2.2.2.1
theorem SPY.mk {h h1 : Nat → aE} {A : Nat → Prop} {ou ne sta dra id way least way2 least2 : Nat} {l lo ld l2 : List Nat} {T : PkS} {ab : Nat → Nat} (r : SPY h ou ne sta dra id way least l lo ld T ab) (f : Fr h h1 A) (q : ∀ x, 3 ≤ x → x ≤ 189 → ¬ A x) (q2 : ∀ x, aBig ≤ x → ¬ A x) (e0 : h1 0 = spO ou ne sta dra id way2 least2) (e1 : RowIs h1 1 8000 (some l2) 0 0) : SPY h1 ou ne sta dra id way2 least2 l2 lo ld T ab := by
  obtain ⟨-, a2, a3, -, a5, a6, a7, a8, a9, ⟨S, a10⟩, a11⟩ := r
  refine ⟨e0, a2, a3, e1, (a5).zfr f (q _ (by omega) (by omega)) (q _ (by omega) (by omega)), (a6).zfr f (q _ (by omega) (by omega)) (q _ (by omega) (by omega)), (a7).zfr f (q _ (by omega) (by omega)) (q _ (by omega) (by omega)), (a8).zfr f (fun x h1 h2 => q _ (by omega) (by omega)), (a9).zfr f (fun x h1 h2 => q _ (by omega) (by omega)), ⟨S, (a10).zfr f (fun x h1 h2 => q _ (by omega) (by omega)) q2⟩, (a11).zfr f (q _ (by omega) (by omega))⟩
theorem SX.zfr {h h1 : Nat → aE} {A : Nat → Prop} {V : VS} (r : SX h V) (f : Fr h h1 A) (q : ∀ x, x ≤ 189 → ¬ A x) (q2 : ∀ x, aBig ≤ x → ¬ A x) : SX h1 V := by
  obtain ⟨ou, ne, sta, dra, r⟩ := r
  exact ⟨ou, ne, sta, dra, SPY.mk r f (fun x _ h2 => q x h2) q2 ((f _ (q _ (by omega))).trans r.1) ((r.2.2.2.1).zfr f (q _ (by omega)) (q _ (by omega)))⟩
theorem SX.rcv {n s : Nat} {h : Nat → aE} {V : VS} {vl : List Value} (r : SX h V) (hn : 190 ≤ n) : rcv 11 (.ref 0 :: vl) (n, s, h) = true := by
  obtain ⟨ou, ne, sta, dra, r⟩ := r
  exact rcv_ok (by omega) r.1
theorem SX.rfb {h : Nat → aE} {id way least : Nat} {l lo ld : List Nat} {T : PkS} {ab : Nat → Nat} (r : SPX h id way least l lo ld T ab) : RfB l lo ld ∧ ∀ i, (lo).getD i 0 < 256 := by
  obtain ⟨ou, ne, sta, dra, -, a2, a3, a4, a5, a6, a7, -⟩ := r
  exact ⟨⟨row_le a4, row_le a7, row_le a5, row_lt a4, row_lt a7⟩, row_lt a5⟩
theorem RfX.inn {I J : Nat → Int32} {A B : Nat → Nat → Int32} {id way least : Nat} {l lo ld : List Nat} {T : PkS} {ab : Nat → Nat} {l2 : List Nat} (h : RfX I A id way least l lo ld T ab) (fi : Fi I J (fun f => f = 1)) (fa : Fa A B 1) (hO : InIs J B l2) : RfX J B id way least l2 lo ld T ab := by
  obtain ⟨a, b, c, d, e, f, g, ⟨c1, w1, M⟩, i⟩ := h
  refine ⟨hO, ⟨(fi 3 (by decide)).trans b.1, ?_⟩, (fi 4 (by decide)).trans c, (fi 5 (by decide)).trans d, ⟨(fi 7 (by decide)).trans e.1, ?_⟩, (fi 8 (by decide)).trans f, (g).mv (fi 9 (by decide)) (fa 4 (by decide)) (fa 5 (by decide)) (fa 6 (by decide)) (fa 7 (by decide)), ⟨c1, w1, (M).fa (fi 38 (by decide)) (fa 24 (by decide))⟩, ?_⟩
  · rw [fa 2 (by decide)]; exact b.2
  · rw [fa 3 (by decide)]; exact e.2
  · rw [fa 43 (by decide)]; exact i
theorem RfX.rul {I J : Nat → Int32} {A : Nat → Nat → Int32} {id way least : Nat} {l lo ld : List Nat} {T : PkS} {ab : Nat → Nat} {w2 l2 : Nat} (h : RfX I A id way least l lo ld T ab) (e : J = upd (upd I 4 (nI w2)) 5 (nI l2)) : RfX J A id w2 l2 l lo ld T ab := by
  obtain ⟨a, b, c, d, ee, f, g, ⟨c1, w1, M⟩, i⟩ := h
  have z : ∀ q, q ≠ 4 → q ≠ 5 → J q = I q := fun q h4 h5 => by rw [e, pk_un h5, pk_un h4]
  exact ⟨⟨(z 1 (by decide) (by decide)).trans a.1, a.2⟩, ⟨(z 3 (by decide) (by decide)).trans b.1, b.2⟩, by rw [e, pk_un (by decide), pk_us], by rw [e, pk_us], ⟨(z 7 (by decide) (by decide)).trans ee.1, ee.2⟩, (z 8 (by decide) (by decide)).trans f, (g).mv (z 9 (by decide) (by decide)) rfl rfl rfl rfl, ⟨c1, w1, (M).fa (z 38 (by decide) (by decide)) rfl⟩, i⟩
/-! what each call answers, and what stands behind it -/
def tWr (id way least : Nat) (l lo ld : List Nat) (T : PkS) (ab : Nat → Nat) (x : Int64) (nn : Int32) (a : Int32) (W : VS) : Prop := (wBad (l).length nn ∧ a = 0 ∧ W = (id, way, least, l, lo, ld, T, ab)) ∨ (¬ wBad (l).length nn ∧ ∃ q, nn = nI q ∧ q ≤ 8 ∧ a = 1 ∧ W = (id, way, least, l ++ hiL x q, lo, ld, T, ab))
def tAg (id way least : Nat) (l lo ld : List Nat) (T : PkS) (ab : Nat → Nat) (x y : Int32) (a : Int32) (W : VS) : Prop := (aBad (l).length x y ∧ a = 0 ∧ W = (id, way, least, l, lo, ld, T, ab)) ∨ (¬ aBad (l).length x y ∧ ∃ p q, x = nI p ∧ y = nI q ∧ p ≤ 8000 ∧ q < 2 ^ 31 ∧ a = 1 ∧ W = (id, way, least, agL p l (p * q), lo, ld, T, ab))
def tTu (id way least : Nat) (l lo ld : List Nat) (T : PkS) (ab : Nat → Nat) (a : Int32) (W : VS) : Prop := (8000 < (lo).length ∧ a = 0 ∧ W = (id, way, least, l, lo, ld, T, ab)) ∨ ((lo).length ≤ 8000 ∧ a = 1 ∧ W = (id, way, least, lo, lo, ld, T, ab))
def tRu (id way least : Nat) (l lo ld : List Nat) (T : PkS) (ab : Nat → Nat) (x y : Int32) (a : Int32) (W : VS) : Prop := ((x < 0 ∨ 3 < x ∨ y < 3 ∨ 8 < y) ∧ a = 0 ∧ W = (id, way, least, l, lo, ld, T, ab)) ∨ (¬ (x < 0 ∨ 3 < x ∨ y < 3 ∨ 8 < y) ∧ ∃ p q, p ≤ 3 ∧ 3 ≤ q ∧ q ≤ 8 ∧ x = nI p ∧ y = nI q ∧ a = 1 ∧ W = (id, p, q, l, lo, ld, T, ab))
def tLe (id way least : Nat) (l lo ld : List Nat) (T : PkS) (ab : Nat → Nat) (a : Int32) (W : VS) : Prop := (¬ fmd l ∧ a = nI (l).length ∧ W = (0, way, least, [], lo, l, stN, ab)) ∨ (fmd l ∧ ∃ r, RdT l r ∧ ((∃ k, r = .inl k ∧ a = -nI k ∧ W = (id, way, least, l, lo, ld, T, ab)) ∨ (∃ T2 b, r = .inr (T2, b) ∧ a = nI ((l).length - b) ∧ W = (wdN l 4 4, way, least, [], lo, sliceL l b (l).length, T2, ab))))
def tPr (id way least : Nat) (l lo ld : List Nat) (T : PkS) (ab : Nat → Nat) (fl e cut : Int32) (a : Int32) (W : VS) : Prop := (prBd fl e cut ∧ a = -1 ∧ W = (id, way, least, l, lo, ld, T, ab)) ∨ (¬ prBd fl e cut ∧ ∃ fN eN cN, PrN fl e cut fN eN cN ∧ ((12000 < (prY fN eN cN id way least ld l T).length ∧ a = -1 ∧ W = (id, way, least, l, lo, ld, T, ab)) ∨ ((prY fN eN cN id way least ld l T).length ≤ 12000 ∧ a = nI (prY fN eN cN id way least ld l T).length ∧ W = (id, way, least, l, prY fN eN cN id way least ld l T, ld, T, (prS fN eN cN way least ld l T).2.2.2.2.2.2))))
def tMk (id way least : Nat) (l lo ld : List Nat) (T : PkS) (ab : Nat → Nat) (x : Int32) (a : Int32) (W : VS) : Prop := ∃ r, MkR x way least l r ∧ (((r = none ∨ ∃ b, r = some b ∧ 12000 < (b).length) ∧ a = -1 ∧ W = (id, way, least, l, lo, ld, T, ab)) ∨ (∃ b, r = some b ∧ (b).length ≤ 12000 ∧ a = nI (b).length ∧ W = (id, way, least, l, b, ld, T, ab)))
theorem nI_uq {a b : Nat} {x : Int32} (ha : a < 2 ^ 31) (hb : b < 2 ^ 31) (h1 : x = nI a) (h2 : x = nI b) : a = b := (nI_eq ha hb).mp (h1.symm.trans h2)
theorem tWr.uq {id way least : Nat} {l lo ld : List Nat} {T : PkS} {ab : Nat → Nat} {x : Int64} {nn a b : Int32} {W Z : VS} (h1 : tWr id way least l lo ld T ab x nn a W) (h2 : tWr id way least l lo ld T ab x nn b Z) : a = b ∧ W = Z := by
  rcases h1 with ⟨p, rfl, rfl⟩ | ⟨p, q, e1, e2, rfl, rfl⟩
  · rcases h2 with ⟨p2, rfl, rfl⟩ | ⟨p2, -⟩
    · exact ⟨rfl, rfl⟩
    · exact absurd p p2
  · rcases h2 with ⟨p2, -⟩ | ⟨p2, q2, e3, e4, rfl, rfl⟩
    · exact absurd p2 p
    · obtain rfl := nI_uq (by omega) (by omega) e1 e3
      exact ⟨rfl, rfl⟩
theorem tAg.uq {id way least : Nat} {l lo ld : List Nat} {T : PkS} {ab : Nat → Nat} {x y a b : Int32} {W Z : VS} (h1 : tAg id way least l lo ld T ab x y a W) (h2 : tAg id way least l lo ld T ab x y b Z) : a = b ∧ W = Z := by
  rcases h1 with ⟨p, rfl, rfl⟩ | ⟨p, p1, q1, e1, e2, b1, b2, rfl, rfl⟩
  · rcases h2 with ⟨p2, rfl, rfl⟩ | ⟨p2, -⟩
    · exact ⟨rfl, rfl⟩
    · exact absurd p p2
  · rcases h2 with ⟨p2, -⟩ | ⟨p2, p3, q3, e3, e4, b3, b4, rfl, rfl⟩
    · exact absurd p2 p
    · obtain rfl := nI_uq (by omega) (by omega) e1 e3
      obtain rfl := nI_uq (by omega) (by omega) e2 e4
      exact ⟨rfl, rfl⟩
theorem tTu.uq {id way least : Nat} {l lo ld : List Nat} {T : PkS} {ab : Nat → Nat} {a b : Int32} {W Z : VS} (h1 : tTu id way least l lo ld T ab a W) (h2 : tTu id way least l lo ld T ab b Z) : a = b ∧ W = Z := by
  rcases h1 with ⟨p, rfl, rfl⟩ | ⟨p, rfl, rfl⟩
  · rcases h2 with ⟨p2, rfl, rfl⟩ | ⟨p2, -⟩
    · exact ⟨rfl, rfl⟩
    · omega
  · rcases h2 with ⟨p2, -⟩ | ⟨p2, rfl, rfl⟩
    · omega
    · exact ⟨rfl, rfl⟩
theorem tRu.uq {id way least : Nat} {l lo ld : List Nat} {T : PkS} {ab : Nat → Nat} {x y a b : Int32} {W Z : VS} (h1 : tRu id way least l lo ld T ab x y a W) (h2 : tRu id way least l lo ld T ab x y b Z) : a = b ∧ W = Z := by
  rcases h1 with ⟨p, rfl, rfl⟩ | ⟨p, p1, q1, b1, b2, b3, e1, e2, rfl, rfl⟩
  · rcases h2 with ⟨p2, rfl, rfl⟩ | ⟨p2, -⟩
    · exact ⟨rfl, rfl⟩
    · exact absurd p p2
  · rcases h2 with ⟨p2, -⟩ | ⟨p2, p3, q3, b4, b5, b6, e3, e4, rfl, rfl⟩
    · exact absurd p2 p
    · obtain rfl := nI_uq (by omega) (by omega) e1 e3
      obtain rfl := nI_uq (by omega) (by omega) e2 e4
      exact ⟨rfl, rfl⟩
theorem tLe.uq {id way least : Nat} {l lo ld : List Nat} {T : PkS} {ab : Nat → Nat} {a b : Int32} {W Z : VS} (h1 : tLe id way least l lo ld T ab a W) (h2 : tLe id way least l lo ld T ab b Z) : a = b ∧ W = Z := by
  rcases h1 with ⟨p, rfl, rfl⟩ | ⟨p, r1, R1, h1⟩
  · rcases h2 with ⟨p2, rfl, rfl⟩ | ⟨p2, -⟩
    · exact ⟨rfl, rfl⟩
    · exact absurd p2 p
  · rcases h2 with ⟨p2, -⟩ | ⟨p2, r2, R2, h2⟩
    · exact absurd p p2
    · have e := (R1).uq R2
      rcases h1 with ⟨k, e1, rfl, rfl⟩ | ⟨T2, b2, e1, rfl, rfl⟩
      · rcases h2 with ⟨k2, e2, rfl, rfl⟩ | ⟨T3, b3, e2, rfl, rfl⟩
        · rw [e1, e2] at e
          obtain rfl := Sum.inl.inj e
          exact ⟨rfl, rfl⟩
        · rw [e1, e2] at e
          exact absurd e (by simp)
      · rcases h2 with ⟨k2, e2, rfl, rfl⟩ | ⟨T3, b3, e2, rfl, rfl⟩
        · rw [e1, e2] at e
          exact absurd e (by simp)
        · rw [e1, e2] at e
          have e := Sum.inr.inj e
          obtain rfl : T2 = T3 := congrArg Prod.fst e
          obtain rfl : b2 = b3 := congrArg Prod.snd e
          exact ⟨rfl, rfl⟩
theorem tPr.uq {id way least : Nat} {l lo ld : List Nat} {T : PkS} {ab : Nat → Nat} {fl e cut a b : Int32} {W Z : VS} (h1 : tPr id way least l lo ld T ab fl e cut a W) (h2 : tPr id way least l lo ld T ab fl e cut b Z) : a = b ∧ W = Z := by
  rcases h1 with ⟨p, rfl, rfl⟩ | ⟨p, f1, e1, c1, ⟨u1, u2, u3, u4, u5, u6, u7⟩, h1⟩
  · rcases h2 with ⟨p2, rfl, rfl⟩ | ⟨p2, -⟩
    · exact ⟨rfl, rfl⟩
    · exact absurd p p2
  · rcases h2 with ⟨p2, -⟩ | ⟨p2, f2, e2, c2, ⟨v1, v2, v3, v4, v5, v6, v7⟩, h2⟩
    · exact absurd p2 p
    · obtain rfl := nI_uq (by omega) (by omega) u1 v1
      obtain rfl := nI_uq (by omega) (by omega) u2 v2
      obtain rfl := nI_uq (by omega) (by omega) u3 v3
      rcases h1 with ⟨z1, rfl, rfl⟩ | ⟨z1, rfl, rfl⟩
      · rcases h2 with ⟨z2, rfl, rfl⟩ | ⟨z2, rfl, rfl⟩
        · exact ⟨rfl, rfl⟩
        · omega
      · rcases h2 with ⟨z2, rfl, rfl⟩ | ⟨z2, rfl, rfl⟩
        · omega
        · exact ⟨rfl, rfl⟩
theorem tMk.uq {id way least : Nat} {l lo ld : List Nat} {T : PkS} {ab : Nat → Nat} {x a b : Int32} {W Z : VS} (h1 : tMk id way least l lo ld T ab x a W) (h2 : tMk id way least l lo ld T ab x b Z) : a = b ∧ W = Z := by
  obtain ⟨r, R1, h1⟩ := h1
  obtain ⟨r2, R2, h2⟩ := h2
  obtain rfl := (R1).uq R2
  rcases h1 with ⟨z1, rfl, rfl⟩ | ⟨b1, z1, y1, rfl, rfl⟩
  · rcases h2 with ⟨z2, rfl, rfl⟩ | ⟨b2, z2, y2, rfl, rfl⟩
    · exact ⟨rfl, rfl⟩
    · rcases z1 with z1 | ⟨b1, z1, y1⟩
      · rw [z1] at z2; exact absurd z2 (by simp)
      · rw [z1] at z2
        obtain rfl := Option.some.inj z2
        omega
  · rcases h2 with ⟨z2, rfl, rfl⟩ | ⟨b2, z2, y2, rfl, rfl⟩
    · rcases z2 with z2 | ⟨b2, z2, y2⟩
      · rw [z1] at z2; exact absurd z2 (by simp)
      · rw [z1] at z2
        obtain rfl := Option.some.inj z2
        omega
    · rw [z1] at z2
      obtain rfl := Option.some.inj z2
      exact ⟨rfl, rfl⟩
theorem tWr.ok {id way least : Nat} {l lo ld : List Nat} {T : PkS} {ab : Nat → Nat} {x : Int64} {nn a : Int32} {W : VS} (h1 : tWr id way least l lo ld T ab x nn a W) (h : VOk (id, way, least, l, lo, ld, T, ab)) : VOk W := by
  rcases h1 with ⟨p, rfl, rfl⟩ | ⟨p, q, e1, e2, rfl, rfl⟩ <;> exact h
theorem tAg.ok {id way least : Nat} {l lo ld : List Nat} {T : PkS} {ab : Nat → Nat} {x y a : Int32} {W : VS} (h1 : tAg id way least l lo ld T ab x y a W) (h : VOk (id, way, least, l, lo, ld, T, ab)) : VOk W := by
  rcases h1 with ⟨p, rfl, rfl⟩ | ⟨p, p1, q1, e1, e2, b1, b2, rfl, rfl⟩ <;> exact h
theorem tTu.ok {id way least : Nat} {l lo ld : List Nat} {T : PkS} {ab : Nat → Nat} {a : Int32} {W : VS} (h1 : tTu id way least l lo ld T ab a W) (h : VOk (id, way, least, l, lo, ld, T, ab)) : VOk W := by
  rcases h1 with ⟨p, rfl, rfl⟩ | ⟨p, rfl, rfl⟩ <;> exact h
theorem tRu.ok {id way least : Nat} {l lo ld : List Nat} {T : PkS} {ab : Nat → Nat} {x y a : Int32} {W : VS} (h1 : tRu id way least l lo ld T ab x y a W) (h : VOk (id, way, least, l, lo, ld, T, ab)) : VOk W := by
  rcases h1 with ⟨p, rfl, rfl⟩ | ⟨p, p1, q1, b1, b2, b3, e1, e2, rfl, rfl⟩
  · exact h
  · exact ⟨h.1, b1, b2, b3, h.2.2.2.2⟩
theorem tLe.ok {id way least : Nat} {l lo ld : List Nat} {T : PkS} {ab : Nat → Nat} {a : Int32} {W : VS} (hB : RfB l lo ld) (h1 : tLe id way least l lo ld T ab a W) (h : VOk (id, way, least, l, lo, ld, T, ab)) : VOk W := by
  rcases h1 with ⟨p, rfl, rfl⟩ | ⟨p, r1, R1, h1⟩
  · exact ⟨Nat.pow_pos (by decide), h.2.1, h.2.2.1, h.2.2.2.1, stN_ok⟩
  · rcases h1 with ⟨k, e1, rfl, rfl⟩ | ⟨T2, b2, e1, rfl, rfl⟩
    · exact h
    · rw [e1] at R1
      exact ⟨wd_lt hB.2.2.2.1 4 4, h.2.1, h.2.2.1, h.2.2.2.1, ((R1).ok hB.1).1⟩
theorem tPr.ok {id way least : Nat} {l lo ld : List Nat} {T : PkS} {ab : Nat → Nat} {fl e cut a : Int32} {W : VS} (h1 : tPr id way least l lo ld T ab fl e cut a W) (h : VOk (id, way, least, l, lo, ld, T, ab)) : VOk W := by
  rcases h1 with ⟨p, rfl, rfl⟩ | ⟨p, f1, e1, c1, u, ⟨z1, rfl, rfl⟩ | ⟨z1, rfl, rfl⟩⟩ <;> exact h
theorem tMk.ok {id way least : Nat} {l lo ld : List Nat} {T : PkS} {ab : Nat → Nat} {x a : Int32} {W : VS} (h1 : tMk id way least l lo ld T ab x a W) (h : VOk (id, way, least, l, lo, ld, T, ab)) : VOk W := by
  obtain ⟨r, R1, ⟨z1, rfl, rfl⟩ | ⟨b1, z1, y1, rfl, rfl⟩⟩ := h1 <;> exact h
