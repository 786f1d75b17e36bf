/-! each call of both, in the one word -/
def tBy (id way least : Nat) (l lo ld : List Nat) (T : PkS) (ab : Nat → Nat) (x : Int32) (a : Int32) (W : VS) : Prop := W = (id, way, least, l, lo, ld, T, ab) ∧ (((x < 0 ∨ nI (lo).length ≤ x) ∧ a = -1) ∨ (∃ i, i < (lo).length ∧ x = nI i ∧ a = nI ((lo).getD i 0)))
def tAb (id way least : Nat) (l lo ld : List Nat) (T : PkS) (ab : Nat → Nat) (x : Int32) (a : Int32) (W : VS) : Prop := W = (id, way, least, l, lo, ld, T, ab) ∧ (((x < 0 ∨ 11 < x) ∧ a = -1) ∨ (∃ i, i < 12 ∧ x = nI i ∧ a = nI (ab i)))
def tSz (id way least : Nat) (l lo ld : List Nat) (T : PkS) (ab : Nat → Nat) (a : Int32) (W : VS) : Prop := W = (id, way, least, l, lo, ld, T, ab) ∧ a = nI (lo).length
theorem tBy.uq {id way least : Nat} {l lo ld : List Nat} {T : PkS} {ab : Nat → Nat} {x a b : Int32} {W Z : VS} (hl : (lo).length ≤ 12000) (h1 : tBy id way least l lo ld T ab x a W) (h2 : tBy id way least l lo ld T ab x b Z) : a = b ∧ W = Z := by
  obtain ⟨rfl, h1⟩ := h1
  obtain ⟨rfl, h2⟩ := h2
  refine ⟨?_, rfl⟩
  have no : ∀ i, i < (lo).length → x = nI i → ¬ (x < 0 ∨ nI (lo).length ≤ x) := fun i hi e z => by
    rw [e] at z
    rcases z with z | z
    · exact nI_pos (by omega) z
    · exact nI_ge hi (by omega) z
  rcases h1 with ⟨p, rfl⟩ | ⟨i, hi, e1, rfl⟩
  · rcases h2 with ⟨p2, rfl⟩ | ⟨i2, hi2, e2, rfl⟩
    · rfl
    · exact absurd p (no _ hi2 e2)
  · rcases h2 with ⟨p2, rfl⟩ | ⟨i2, hi2, e2, rfl⟩
    · exact absurd p2 (no _ hi e1)
    · obtain rfl := nI_uq (by omega) (by omega) e1 e2
      rfl
theorem tAb.uq {id way least : Nat} {l lo ld : List Nat} {T : PkS} {ab : Nat → Nat} {x a b : Int32} {W Z : VS} (h1 : tAb id way least l lo ld T ab x a W) (h2 : tAb id way least l lo ld T ab x b Z) : a = b ∧ W = Z := by
  obtain ⟨rfl, h1⟩ := h1
  obtain ⟨rfl, h2⟩ := h2
  refine ⟨?_, rfl⟩
  have no : ∀ i, i < 12 → x = nI i → ¬ (x < 0 ∨ 11 < x) := fun i hi e z => by
    rw [e] at z
    rcases z with z | z
    · exact nI_pos (by omega) z
    · exact absurd (show nI 11 < nI i from z) (nI_nlt (by omega) (by omega))
  rcases h1 with ⟨p, rfl⟩ | ⟨i, hi, e1, rfl⟩
  · rcases h2 with ⟨p2, rfl⟩ | ⟨i2, hi2, e2, rfl⟩
    · rfl
    · exact absurd p (no _ hi2 e2)
  · rcases h2 with ⟨p2, rfl⟩ | ⟨i2, hi2, e2, rfl⟩
    · exact absurd p2 (no _ hi e1)
    · obtain rfl := nI_uq (by omega) (by omega) e1 e2
      rfl
theorem tSz.uq {id way least : Nat} {l lo ld : List Nat} {T : PkS} {ab : Nat → Nat} {a b : Int32} {W Z : VS} (h1 : tSz id way least l lo ld T ab a W) (h2 : tSz id way least l lo ld T ab b Z) : a = b ∧ W = Z := by
  obtain ⟨rfl, rfl⟩ := h1
  obtain ⟨rfl, rfl⟩ := h2
  exact ⟨rfl, rfl⟩
theorem tBy.ok {id way least : Nat} {l lo ld : List Nat} {T : PkS} {ab : Nat → Nat} {x a : Int32} {W : VS} (h1 : tBy id way least l lo ld T ab x a W) (h : VOk (id, way, least, l, lo, ld, T, ab)) : VOk W := by
  obtain ⟨rfl, h1⟩ := h1
  exact h
theorem tAb.ok {id way least : Nat} {l lo ld : List Nat} {T : PkS} {ab : Nat → Nat} {x a : Int32} {W : VS} (h1 : tAb id way least l lo ld T ab x a W) (h : VOk (id, way, least, l, lo, ld, T, ab)) : VOk W := by
  obtain ⟨rfl, h1⟩ := h1
  exact h
theorem tSz.ok {id way least : Nat} {l lo ld : List Nat} {T : PkS} {ab : Nat → Nat} {a : Int32} {W : VS} (h1 : tSz id way least l lo ld T ab a W) (h : VOk (id, way, least, l, lo, ld, T, ab)) : VOk W := by
  obtain ⟨rfl, h1⟩ := h1
  exact h
theorem ru_nat {a b : Int32} (e1 : 0 ≤ a) (e2 : a ≤ 3) (e3 : 3 ≤ b) (e4 : b ≤ 8) : ¬ (a < 0 ∨ 3 < a ∨ b < 3 ∨ 8 < b) ∧ ∃ p q, p ≤ 3 ∧ 3 ≤ q ∧ q ≤ 8 ∧ a = nI p ∧ b = nI q := by
  refine ⟨?_, ?_⟩
  · rintro (q | q | q | q)
    · exact (Int32.not_lt.mpr e1) q
    · exact (Int32.not_lt.mpr e2) q
    · exact (Int32.not_lt.mpr e3) q
    · exact (Int32.not_lt.mpr e4) q
  · obtain ⟨p, hp, rfl⟩ := nI_of2 (M := 3) (n := 3) (by decide) (Int32.not_lt.mpr e1) e2
    obtain ⟨q, hq, rfl⟩ := nI_of2 (M := 8) (n := 8) (by decide) (Int32.not_lt.mpr (Int32.le_trans (by decide : (0 : Int32) ≤ 3) e3)) e4
    exact ⟨p, q, hp, (nI_leI (a := 3) (by decide) (by omega)).mp e3, hq, rfl, rfl⟩
theorem y_write {n s : Nat} {h : Nat → aE} {id way least : Nat} {l lo ld : List Nat} {T : PkS} {ab : Nat → Nat} {x : Int64} {nn : Int32} (hn : 190 ≤ n) (hnb : n < aBig) (hX : SX h (id, way, least, l, lo, ld, T, ab)) (hV : VOk (id, way, least, l, lo, ld, T, ab)) {Ψ : Option Value → aH → Prop} (kk : ∀ h' a W, tWr id way least l lo ld T ab x nn a W → Fr h h' (fun j => j ≤ 189) → SX h' W → Ψ (some (.int a)) (n, s, h')) : WO (mM 10) 124 [.ref 0, .long x, .int nn] (n, s, h) Ψ := by
  have hX1 : SPX h id way least l lo ld T ab := hX
  obtain ⟨ou, ne, sta, dra, r⟩ := hX1
  exact x_writeL (d := 8) hn (row_le r.2.2.2.1) r.1 r.2.2.2.1 (fun b => kk h _ _ (Or.inl ⟨b, rfl, rfl⟩) Fr.rf hX) (fun h' q g e q8 f R => kk h' 1 (id, way, least, l ++ hiL x q, lo, ld, T, ab) (Or.inr ⟨g, q, e, q8, rfl, rfl⟩) (fun j hj => f j (by omega)) ⟨ou, ne, sta, dra, SPY.mk r f (fun x h1 h2 => by omega) (fun x h1 => by have hB : aBig = 1000000 := rfl; omega) ((f 0 (by omega)).trans r.1) R⟩)
theorem z_write {n s : Nat} {h : Nat → aE} {m : Nat} {I : Nat → Int32} {A : Nat → Nat → Int32} {LN : Nat → Int64} {id way least : Nat} {l lo ld : List Nat} {T : PkS} {ab : Nat → Nat} {x : Int64} {nn : Int32} (hm : m + 43 < n) (M_h : MAt h m I A LN) (hR : RX I A (id, way, least, l, lo, ld, T, ab)) (hB : RfB l lo ld) (hV : VOk (id, way, least, l, lo, ld, T, ab)) {Ψ : Option Value → aH → Prop} (kk : ∀ h' I' A' L' a W, tWr id way least l lo ld T ab x nn a W → Fr h h' (inM m) → MAt h' m I' A' L' → RX I' A' W → Ψ (some (.int a)) (n, s, h')) : WO (mM 10) 142 [.ref m, .long x, .int nn] (n, s, h) Ψ := by
  have hR1 : RfX I A id way least l lo ld T ab := hR
  exact m_writeL (d := 9) hm M_h hR1.1 hB.1 (fun b => kk h I A LN _ _ (Or.inl ⟨b, rfl, rfl⟩) Fr.rf M_h hR) (fun h' I' A' q g e q8 f M1 fi fa hI => kk h' I' A' LN 1 (id, way, least, l ++ hiL x q, lo, ld, T, ab) (Or.inr ⟨g, q, e, q8, rfl, rfl⟩) f M1 (RfX.inn hR1 fi fa hI))
theorem y_again {n s : Nat} {h : Nat → aE} {id way least : Nat} {l lo ld : List Nat} {T : PkS} {ab : Nat → Nat} {x y : Int32} (hn : 190 ≤ n) (hnb : n < aBig) (hX : SX h (id, way, least, l, lo, ld, T, ab)) (hV : VOk (id, way, least, l, lo, ld, T, ab)) {Ψ : Option Value → aH → Prop} (kk : ∀ h' a W, tAg id way least l lo ld T ab x y a W → Fr h h' (fun j => j ≤ 189) → SX h' W → Ψ (some (.int a)) (n, s, h')) : WO (mM 10) 125 [.ref 0, .int x, .int y] (n, s, h) Ψ := by
  have hX1 : SPX h id way least l lo ld T ab := hX
  obtain ⟨ou, ne, sta, dra, r⟩ := hX1
  exact x_againB (d := 8) hn (row_le r.2.2.2.1) r.1 r.2.2.2.1 (fun b => kk h _ _ (Or.inl ⟨b, rfl, rfl⟩) Fr.rf hX) (fun h' p q g e1 e2 b1 b2 f R => kk h' 1 (id, way, least, agL p l (p * q), lo, ld, T, ab) (Or.inr ⟨g, p, q, e1, e2, b1, b2, rfl, rfl⟩) (fun j hj => f j (by omega)) ⟨ou, ne, sta, dra, SPY.mk r f (fun x h1 h2 => by omega) (fun x h1 => by have hB : aBig = 1000000 := rfl; omega) ((f 0 (by omega)).trans r.1) R⟩)
theorem z_again {n s : Nat} {h : Nat → aE} {m : Nat} {I : Nat → Int32} {A : Nat → Nat → Int32} {LN : Nat → Int64} {id way least : Nat} {l lo ld : List Nat} {T : PkS} {ab : Nat → Nat} {x y : Int32} (hm : m + 43 < n) (M_h : MAt h m I A LN) (hR : RX I A (id, way, least, l, lo, ld, T, ab)) (hB : RfB l lo ld) (hV : VOk (id, way, least, l, lo, ld, T, ab)) {Ψ : Option Value → aH → Prop} (kk : ∀ h' I' A' L' a W, tAg id way least l lo ld T ab x y a W → Fr h h' (inM m) → MAt h' m I' A' L' → RX I' A' W → Ψ (some (.int a)) (n, s, h')) : WO (mM 10) 143 [.ref m, .int x, .int y] (n, s, h) Ψ := by
  have hR1 : RfX I A id way least l lo ld T ab := hR
  exact m_againB (d := 9) hm M_h hR1.1 hB.1 (fun b => kk h I A LN _ _ (Or.inl ⟨b, rfl, rfl⟩) Fr.rf M_h hR) (fun h' I' A' p q g e1 e2 b1 b2 f M1 fi fa hI => kk h' I' A' LN 1 (id, way, least, agL p l (p * q), lo, ld, T, ab) (Or.inr ⟨g, p, q, e1, e2, b1, b2, rfl, rfl⟩) f M1 (RfX.inn hR1 fi fa hI))
theorem y_clear {n s : Nat} {h : Nat → aE} {id way least : Nat} {l lo ld : List Nat} {T : PkS} {ab : Nat → Nat}  (hn : 190 ≤ n) (hnb : n < aBig) (hX : SX h (id, way, least, l, lo, ld, T, ab)) (hV : VOk (id, way, least, l, lo, ld, T, ab)) {Ψ : Option Value → aH → Prop} (kk : ∀ h', Fr h h' (fun j => j ≤ 189) → SX h' (id, way, least, [], lo, ld, T, ab) → Ψ none (n, s, h')) : WO (mM 10) 126 [.ref 0] (n, s, h) Ψ := by
  have hX1 : SPX h id way least l lo ld T ab := hX
  obtain ⟨ou, ne, sta, dra, r⟩ := hX1
  exact x_clear (d := 8) (k := 0) (by omega) r.1 r.2.2.2.1 (fun h' f R => kk h' (fun j hj => f j (by omega)) ⟨ou, ne, sta, dra, SPY.mk r f (fun x h1 h2 => by omega) (fun x h1 => by have hB : aBig = 1000000 := rfl; omega) ((f 0 (by omega)).trans r.1) R⟩)
theorem z_clear {n s : Nat} {h : Nat → aE} {m : Nat} {I : Nat → Int32} {A : Nat → Nat → Int32} {LN : Nat → Int64} {id way least : Nat} {l lo ld : List Nat} {T : PkS} {ab : Nat → Nat}  (hm : m + 43 < n) (M_h : MAt h m I A LN) (hR : RX I A (id, way, least, l, lo, ld, T, ab)) (hB : RfB l lo ld) (hV : VOk (id, way, least, l, lo, ld, T, ab)) {Ψ : Option Value → aH → Prop} (kk : ∀ h' I' A' L', Fr h h' (inM m) → MAt h' m I' A' L' → RX I' A' (id, way, least, [], lo, ld, T, ab) → Ψ none (n, s, h')) : WO (mM 10) 144 [.ref m] (n, s, h) Ψ := by
  have hR1 : RfX I A id way least l lo ld T ab := hR
  refine m_clear (d := 9) hm M_h (fun h' I' f M1 e => kk h' I' A LN f M1 (RfX.inn (l2 := []) hR1 (fun q hq => by rw [e]; exact pk_un hq) (fun b hb => rfl) ⟨by rw [e, pk_us]; rfl, fun i hi => absurd hi (Nat.not_lt_zero i)⟩))
theorem y_turn {n s : Nat} {h : Nat → aE} {id way least : Nat} {l lo ld : List Nat} {T : PkS} {ab : Nat → Nat}  (hn : 190 ≤ n) (hnb : n < aBig) (hX : SX h (id, way, least, l, lo, ld, T, ab)) (hV : VOk (id, way, least, l, lo, ld, T, ab)) {Ψ : Option Value → aH → Prop} (kk : ∀ h' a W, tTu id way least l lo ld T ab a W → Fr h h' (fun j => j ≤ 189) → SX h' W → Ψ (some (.int a)) (n, s, h')) : WO (mM 10) 127 [.ref 0] (n, s, h) Ψ := by
  have hX1 : SPX h id way least l lo ld T ab := hX
  obtain ⟨ou, ne, sta, dra, r⟩ := hX1
  exact x_turnL (d := 7) hn (by have := r.2.1; omega) (row_le r.2.2.2.2.1) r.1 r.2.2.2.1 r.2.2.2.2.1 (fun b => kk h _ _ (Or.inl ⟨b, rfl, rfl⟩) Fr.rf hX) (fun h' g f R => kk h' 1 (id, way, least, lo, lo, ld, T, ab) (Or.inr ⟨g, rfl, rfl⟩) (fun j hj => f j (by omega)) ⟨ou, ne, sta, dra, SPY.mk r f (fun x h1 h2 => by omega) (fun x h1 => by have hB : aBig = 1000000 := rfl; omega) ((f 0 (by omega)).trans r.1) R⟩)
theorem z_turn {n s : Nat} {h : Nat → aE} {m : Nat} {I : Nat → Int32} {A : Nat → Nat → Int32} {LN : Nat → Int64} {id way least : Nat} {l lo ld : List Nat} {T : PkS} {ab : Nat → Nat}  (hm : m + 43 < n) (M_h : MAt h m I A LN) (hR : RX I A (id, way, least, l, lo, ld, T, ab)) (hB : RfB l lo ld) (hV : VOk (id, way, least, l, lo, ld, T, ab)) {Ψ : Option Value → aH → Prop} (kk : ∀ h' I' A' L' a W, tTu id way least l lo ld T ab a W → Fr h h' (inM m) → MAt h' m I' A' L' → RX I' A' W → Ψ (some (.int a)) (n, s, h')) : WO (mM 10) 145 [.ref m] (n, s, h) Ψ := by
  have hR1 : RfX I A id way least l lo ld T ab := hR
  exact m_turnL (d := 9) hm M_h hR1.2.1 hB.2.2.1 (fun b => kk h I A LN _ _ (Or.inl ⟨b, rfl, rfl⟩) Fr.rf M_h hR) (fun h' I' A' g f M1 fi fa hI => kk h' I' A' LN 1 (id, way, least, lo, lo, ld, T, ab) (Or.inr ⟨g, rfl, rfl⟩) f M1 (RfX.inn hR1 fi fa hI))
theorem y_rule {n s : Nat} {h : Nat → aE} {id way least : Nat} {l lo ld : List Nat} {T : PkS} {ab : Nat → Nat} {x y : Int32} (hn : 190 ≤ n) (hnb : n < aBig) (hX : SX h (id, way, least, l, lo, ld, T, ab)) (hV : VOk (id, way, least, l, lo, ld, T, ab)) {Ψ : Option Value → aH → Prop} (kk : ∀ h' a W, tRu id way least l lo ld T ab x y a W → Fr h h' (fun j => j ≤ 189) → SX h' W → Ψ (some (.int a)) (n, s, h')) : WO (mM 10) 128 [.ref 0, .int x, .int y] (n, s, h) Ψ := by
  have hX1 : SPX h id way least l lo ld T ab := hX
  obtain ⟨ou, ne, sta, dra, r⟩ := hX1
  refine x_rule (d := 9) (k := 0) (by omega) r.1 (fun b => kk h _ _ (Or.inl ⟨b, rfl, rfl⟩) Fr.rf hX) (fun h' e1 e2 e3 e4 f E => ?_)
  obtain ⟨g, p, q, b1, b2, b3, rfl, rfl⟩ := ru_nat e1 e2 e3 e4
  exact kk h' 1 (id, p, q, l, lo, ld, T, ab) (Or.inr ⟨g, p, q, b1, b2, b3, rfl, rfl, rfl, rfl⟩) (fun j hj => f j (by omega)) ⟨ou, ne, sta, dra, SPY.mk r f (fun x h1 h2 => by omega) (fun x h1 => by have hB : aBig = 1000000 := rfl; omega) E ((r.2.2.2.1).zfr f (by omega) (by omega))⟩
theorem z_rule {n s : Nat} {h : Nat → aE} {m : Nat} {I : Nat → Int32} {A : Nat → Nat → Int32} {LN : Nat → Int64} {id way least : Nat} {l lo ld : List Nat} {T : PkS} {ab : Nat → Nat} {x y : Int32} (hm : m + 43 < n) (M_h : MAt h m I A LN) (hR : RX I A (id, way, least, l, lo, ld, T, ab)) (hB : RfB l lo ld) (hV : VOk (id, way, least, l, lo, ld, T, ab)) {Ψ : Option Value → aH → Prop} (kk : ∀ h' I' A' L' a W, tRu id way least l lo ld T ab x y a W → Fr h h' (inM m) → MAt h' m I' A' L' → RX I' A' W → Ψ (some (.int a)) (n, s, h')) : WO (mM 10) 146 [.ref m, .int x, .int y] (n, s, h) Ψ := by
  have hR1 : RfX I A id way least l lo ld T ab := hR
  refine m_rule (d := 9) hm M_h (fun b => kk h I A LN _ _ (Or.inl ⟨b, rfl, rfl⟩) Fr.rf M_h hR) (fun h' I' e1 e2 e3 e4 f M1 E => ?_)
  obtain ⟨g, p, q, b1, b2, b3, rfl, rfl⟩ := ru_nat e1 e2 e3 e4
  exact kk h' I' A LN 1 (id, p, q, l, lo, ld, T, ab) (Or.inr ⟨g, p, q, b1, b2, b3, rfl, rfl, rfl, rfl⟩) f M1 (RfX.rul hR1 E)
theorem y_learn {n s : Nat} {h : Nat → aE} {id way least : Nat} {l lo ld : List Nat} {T : PkS} {ab : Nat → Nat}  (hn : 190 ≤ n) (hnb : n < aBig) (hX : SX h (id, way, least, l, lo, ld, T, ab)) (hV : VOk (id, way, least, l, lo, ld, T, ab)) {Ψ : Option Value → aH → Prop} (kk : ∀ h' a W, tLe id way least l lo ld T ab a W → Fr h h' (fun j => j ≤ 189) → SX h' W → Ψ (some (.int a)) (n, s, h')) : WO (mM 10) 129 [.ref 0] (n, s, h) Ψ := by
  have hX1 : SPX h id way least l lo ld T ab := hX
  exact x_learnL (d := 2) hn hnb hX1 (fun k v g R e h' f X => kk h' _ _ (Or.inr ⟨g, _, R, Or.inl ⟨k, rfl, e, rfl⟩⟩) f X) (fun g h' f X => kk h' _ (0, way, least, [], lo, l, stN, ab) (Or.inl ⟨g, rfl, rfl⟩) f X) (fun T2 b g R h' f X => kk h' _ (wdN l 4 4, way, least, [], lo, sliceL l b (l).length, T2, ab) (Or.inr ⟨g, _, R, Or.inr ⟨T2, b, rfl, rfl, rfl⟩⟩) f X)
theorem z_learn {n s : Nat} {h : Nat → aE} {m : Nat} {I : Nat → Int32} {A : Nat → Nat → Int32} {LN : Nat → Int64} {id way least : Nat} {l lo ld : List Nat} {T : PkS} {ab : Nat → Nat}  (hm : m + 43 < n) (M_h : MAt h m I A LN) (hR : RX I A (id, way, least, l, lo, ld, T, ab)) (hB : RfB l lo ld) (hV : VOk (id, way, least, l, lo, ld, T, ab)) {Ψ : Option Value → aH → Prop} (kk : ∀ h' I' A' L' a W, tLe id way least l lo ld T ab a W → Fr h h' (inM m) → MAt h' m I' A' L' → RX I' A' W → Ψ (some (.int a)) (n, s, h')) : WO (mM 10) 220 [.ref m] (n, s, h) Ψ := by
  have hR1 : RfX I A id way least l lo ld T ab := hR
  exact m_learnL (d := 5) hm M_h hR1 hB (fun k v g R e h' I' A' f M1 X => kk h' I' A' LN _ _ (Or.inr ⟨g, _, R, Or.inl ⟨k, rfl, e, rfl⟩⟩) f M1 X) (fun g h' I' A' f M1 X => kk h' I' A' LN _ (0, way, least, [], lo, l, stN, ab) (Or.inl ⟨g, rfl, rfl⟩) f M1 X) (fun T2 b g R h' I' A' f M1 X => kk h' I' A' LN _ (wdN l 4 4, way, least, [], lo, sliceL l b (l).length, T2, ab) (Or.inr ⟨g, _, R, Or.inr ⟨T2, b, rfl, rfl, rfl⟩⟩) f M1 X)
theorem y_forget {n s : Nat} {h : Nat → aE} {id way least : Nat} {l lo ld : List Nat} {T : PkS} {ab : Nat → Nat}  (hn : 190 ≤ n) (hnb : n < aBig) (hX : SX h (id, way, least, l, lo, ld, T, ab)) (hV : VOk (id, way, least, l, lo, ld, T, ab)) {Ψ : Option Value → aH → Prop} (kk : ∀ h', Fr h h' (fun j => j ≤ 189) → SX h' (0, way, least, l, lo, [], stN, ab) → Ψ none (n, s, h')) : WO (mM 10) 130 [.ref 0] (n, s, h) Ψ := by
  have hX1 : SPX h id way least l lo ld T ab := hX
  exact x_forgetL (d := 8) hn hnb hX1 (fun h' f X => kk h' f X)
theorem z_forget {n s : Nat} {h : Nat → aE} {m : Nat} {I : Nat → Int32} {A : Nat → Nat → Int32} {LN : Nat → Int64} {id way least : Nat} {l lo ld : List Nat} {T : PkS} {ab : Nat → Nat}  (hm : m + 43 < n) (M_h : MAt h m I A LN) (hR : RX I A (id, way, least, l, lo, ld, T, ab)) (hB : RfB l lo ld) (hV : VOk (id, way, least, l, lo, ld, T, ab)) {Ψ : Option Value → aH → Prop} (kk : ∀ h' I' A' L', Fr h h' (inM m) → MAt h' m I' A' L' → RX I' A' (0, way, least, l, lo, [], stN, ab) → Ψ none (n, s, h')) : WO (mM 10) 214 [.ref m] (n, s, h) Ψ := by
  have hR1 : RfX I A id way least l lo ld T ab := hR
  exact m_forgetL (d := 9) hm M_h hR1 (fun h' I' f M1 X => kk h' I' A LN f M1 X)
theorem y_press {n s : Nat} {h : Nat → aE} {id way least : Nat} {l lo ld : List Nat} {T : PkS} {ab : Nat → Nat} {fl e cut : Int32} (hn : 190 ≤ n) (hnb : n < aBig) (hX : SX h (id, way, least, l, lo, ld, T, ab)) (hV : VOk (id, way, least, l, lo, ld, T, ab)) {Ψ : Option Value → aH → Prop} (kk : ∀ h' a W, tPr id way least l lo ld T ab fl e cut a W → Fr h h' (fun j => j ≤ 189) → SX h' W → Ψ (some (.int a)) (n, s, h')) : WO (mM 10) 131 [.ref 0, .int fl, .int e, .int cut] (n, s, h) Ψ := by
  have hX1 : SPX h id way least l lo ld T ab := hX
  exact x_pressL (d := 2) hn hnb hV.1 hV.2.1 hV.2.2.1 hV.2.2.2.1 hV.2.2.2.2 hX1 (fun b => kk h _ _ (Or.inl ⟨b, rfl, rfl⟩) Fr.rf hX) (fun fN eN cN h' g P z f X => kk h' _ _ (Or.inr ⟨g, fN, eN, cN, P, Or.inl ⟨z, rfl, rfl⟩⟩) f X) (fun fN eN cN h' g P z f X => kk h' _ (id, way, least, l, prY fN eN cN id way least ld l T, ld, T, (prS fN eN cN way least ld l T).2.2.2.2.2.2) (Or.inr ⟨g, fN, eN, cN, P, Or.inr ⟨z, rfl, rfl⟩⟩) f X)
theorem z_press {n s : Nat} {h : Nat → aE} {m : Nat} {I : Nat → Int32} {A : Nat → Nat → Int32} {LN : Nat → Int64} {id way least : Nat} {l lo ld : List Nat} {T : PkS} {ab : Nat → Nat} {fl e cut : Int32} (hm : m + 43 < n) (M_h : MAt h m I A LN) (hR : RX I A (id, way, least, l, lo, ld, T, ab)) (hB : RfB l lo ld) (hV : VOk (id, way, least, l, lo, ld, T, ab)) {Ψ : Option Value → aH → Prop} (kk : ∀ h' I' A' L' a W, tPr id way least l lo ld T ab fl e cut a W → Fr h h' (inM m) → MAt h' m I' A' L' → RX I' A' W → Ψ (some (.int a)) (n, s, h')) : WO (mM 10) 208 [.ref m, .int fl, .int e, .int cut] (n, s, h) Ψ := by
  have hR1 : RfX I A id way least l lo ld T ab := hR
  exact m_pressL (d := 1) hm M_h hR1 hB hV.1 hV.2.1 hV.2.2.1 hV.2.2.2.1 hV.2.2.2.2 (fun b => kk h I A LN _ _ (Or.inl ⟨b, rfl, rfl⟩) Fr.rf M_h hR) (fun fN eN cN h' I' A' L' g P z f M1 X => kk h' I' A' L' _ _ (Or.inr ⟨g, fN, eN, cN, P, Or.inl ⟨z, rfl, rfl⟩⟩) f M1 X) (fun fN eN cN h' I' A' L' g P z f M1 X => kk h' I' A' L' _ (id, way, least, l, prY fN eN cN id way least ld l T, ld, T, (prS fN eN cN way least ld l T).2.2.2.2.2.2) (Or.inr ⟨g, fN, eN, cN, P, Or.inr ⟨z, rfl, rfl⟩⟩) f M1 X)
theorem y_make {n s : Nat} {h : Nat → aE} {id way least : Nat} {l lo ld : List Nat} {T : PkS} {ab : Nat → Nat} {x : Int32} (hn : 190 ≤ n) (hnb : n < aBig) (hX : SX h (id, way, least, l, lo, ld, T, ab)) (hV : VOk (id, way, least, l, lo, ld, T, ab)) {Ψ : Option Value → aH → Prop} (kk : ∀ h' a W, tMk id way least l lo ld T ab x a W → Fr h h' (fun j => j ≤ 189) → SX h' W → Ψ (some (.int a)) (n, s, h')) : WO (mM 10) 132 [.ref 0, .int x] (n, s, h) Ψ := by
  have hX1 : SPX h id way least l lo ld T ab := hX
  exact x_makeL (d := 2) hn hnb hV.2.1 hV.2.2.1 hV.2.2.2.1 hX1 (fun h' r R z f X => kk h' _ _ ⟨r, R, Or.inl ⟨z, rfl, rfl⟩⟩ f X) (fun h' b R z f X => kk h' _ (id, way, least, l, b, ld, T, ab) ⟨_, R, Or.inr ⟨b, rfl, z, rfl, rfl⟩⟩ f X)
theorem z_make {n s : Nat} {h : Nat → aE} {m : Nat} {I : Nat → Int32} {A : Nat → Nat → Int32} {LN : Nat → Int64} {id way least : Nat} {l lo ld : List Nat} {T : PkS} {ab : Nat → Nat} {x : Int32} (hm : m + 43 < n) (M_h : MAt h m I A LN) (hR : RX I A (id, way, least, l, lo, ld, T, ab)) (hB : RfB l lo ld) (hV : VOk (id, way, least, l, lo, ld, T, ab)) {Ψ : Option Value → aH → Prop} (kk : ∀ h' I' A' L' a W, tMk id way least l lo ld T ab x a W → Fr h h' (inM m) → MAt h' m I' A' L' → RX I' A' W → Ψ (some (.int a)) (n, s, h')) : WO (mM 10) 213 [.ref m, .int x] (n, s, h) Ψ := by
  have hR1 : RfX I A id way least l lo ld T ab := hR
  exact m_makeL (d := 4) hm M_h hR1 hB hV.2.1 hV.2.2.1 hV.2.2.2.1 (fun r h' I' A' R z f M1 X => kk h' I' A' LN _ _ ⟨r, R, Or.inl ⟨z, rfl, rfl⟩⟩ f M1 X) (fun b h' I' A' R z f M1 X => kk h' I' A' LN _ (id, way, least, l, b, ld, T, ab) ⟨_, R, Or.inr ⟨b, rfl, z, rfl, rfl⟩⟩ f M1 X)
theorem y_about {n s : Nat} {h : Nat → aE} {id way least : Nat} {l lo ld : List Nat} {T : PkS} {ab : Nat → Nat} {x : Int32} (hn : 190 ≤ n) (hnb : n < aBig) (hX : SX h (id, way, least, l, lo, ld, T, ab)) (hV : VOk (id, way, least, l, lo, ld, T, ab)) {Ψ : Option Value → aH → Prop} (kk : ∀ h' a W, tAb id way least l lo ld T ab x a W → Fr h h' (fun j => j ≤ 189) → SX h' W → Ψ (some (.int a)) (n, s, h')) : WO (mM 10) 133 [.ref 0, .int x] (n, s, h) Ψ := by
  have hX1 : SPX h id way least l lo ld T ab := hX
  obtain ⟨ou, ne, sta, dra, r⟩ := hX1
  obtain ⟨g, hg, hq⟩ := r.2.2.2.2.2.2.2.2.2.2
  exact x_about (d := 9) (k := 0) (by omega) r.1 hg (fun b => kk h _ _ ⟨rfl, Or.inl ⟨b, rfl⟩⟩ Fr.rf hX) (fun i hi e => kk h _ _ ⟨rfl, Or.inr ⟨i, hi, e, hq i hi⟩⟩ Fr.rf hX)
theorem z_about {n s : Nat} {h : Nat → aE} {m : Nat} {I : Nat → Int32} {A : Nat → Nat → Int32} {LN : Nat → Int64} {id way least : Nat} {l lo ld : List Nat} {T : PkS} {ab : Nat → Nat} {x : Int32} (hm : m + 43 < n) (M_h : MAt h m I A LN) (hR : RX I A (id, way, least, l, lo, ld, T, ab)) (hB : RfB l lo ld) (hV : VOk (id, way, least, l, lo, ld, T, ab)) {Ψ : Option Value → aH → Prop} (kk : ∀ h' I' A' L' a W, tAb id way least l lo ld T ab x a W → Fr h h' (inM m) → MAt h' m I' A' L' → RX I' A' W → Ψ (some (.int a)) (n, s, h')) : WO (mM 10) 209 [.ref m, .int x] (n, s, h) Ψ := by
  have hR1 : RfX I A id way least l lo ld T ab := hR
  exact m_about (d := 9) hm M_h (fun b => kk h I A LN _ _ ⟨rfl, Or.inl ⟨b, rfl⟩⟩ Fr.rf M_h hR) (fun i hi e => kk h I A LN _ _ ⟨rfl, Or.inr ⟨i, hi, e, hR1.2.2.2.2.2.2.2.2 i hi⟩⟩ Fr.rf M_h hR)
theorem y_size {n s : Nat} {h : Nat → aE} {id way least : Nat} {l lo ld : List Nat} {T : PkS} {ab : Nat → Nat}  (hn : 190 ≤ n) (hnb : n < aBig) (hX : SX h (id, way, least, l, lo, ld, T, ab)) (hV : VOk (id, way, least, l, lo, ld, T, ab)) {Ψ : Option Value → aH → Prop} (kk : ∀ h' a W, tSz id way least l lo ld T ab a W → Fr h h' (fun j => j ≤ 189) → SX h' W → Ψ (some (.int a)) (n, s, h')) : WO (mM 10) 134 [.ref 0] (n, s, h) Ψ := by
  have hX1 : SPX h id way least l lo ld T ab := hX
  obtain ⟨ou, ne, sta, dra, r⟩ := hX1
  obtain ⟨g, ra, hl, hg⟩ := (r.2.2.2.2.1).at_
  exact x_size (d := 9) (k := 0) (by omega) r.1 (by have := r.2.1; omega) ra (kk h _ _ ⟨rfl, rfl⟩ Fr.rf hX)
theorem z_size {n s : Nat} {h : Nat → aE} {m : Nat} {I : Nat → Int32} {A : Nat → Nat → Int32} {LN : Nat → Int64} {id way least : Nat} {l lo ld : List Nat} {T : PkS} {ab : Nat → Nat}  (hm : m + 43 < n) (M_h : MAt h m I A LN) (hR : RX I A (id, way, least, l, lo, ld, T, ab)) (hB : RfB l lo ld) (hV : VOk (id, way, least, l, lo, ld, T, ab)) {Ψ : Option Value → aH → Prop} (kk : ∀ h' I' A' L' a W, tSz id way least l lo ld T ab a W → Fr h h' (inM m) → MAt h' m I' A' L' → RX I' A' W → Ψ (some (.int a)) (n, s, h')) : WO (mM 10) 221 [.ref m] (n, s, h) Ψ := by
  have hR1 : RfX I A id way least l lo ld T ab := hR
  exact m_size (d := 9) hm M_h (kk h I A LN _ _ ⟨rfl, hR1.2.1.1⟩ Fr.rf M_h hR)
theorem y_byteAt {n s : Nat} {h : Nat → aE} {id way least : Nat} {l lo ld : List Nat} {T : PkS} {ab : Nat → Nat} {x : Int32} (hn : 190 ≤ n) (hnb : n < aBig) (hX : SX h (id, way, least, l, lo, ld, T, ab)) (hV : VOk (id, way, least, l, lo, ld, T, ab)) {Ψ : Option Value → aH → Prop} (kk : ∀ h' a W, tBy id way least l lo ld T ab x a W → Fr h h' (fun j => j ≤ 189) → SX h' W → Ψ (some (.int a)) (n, s, h')) : WO (mM 10) 135 [.ref 0, .int x] (n, s, h) Ψ := by
  have hX1 : SPX h id way least l lo ld T ab := hX
  obtain ⟨ou, ne, sta, dra, r⟩ := hX1
  obtain ⟨g, ra, hl, hg⟩ := (r.2.2.2.2.1).at_
  exact x_byteAt (d := 8) (k := 0) (by omega) r.1 (by have := r.2.1; omega) ra hl (by decide) (fun i e hi => kk h _ _ ⟨rfl, Or.inr ⟨i, hi, e, by rw [(hg i hi).2]; exact (sb_byte _ (hg i hi).1).1⟩⟩ Fr.rf hX) (fun b => kk h _ _ ⟨rfl, Or.inl ⟨b, rfl⟩⟩ Fr.rf hX)
theorem z_byteAt {n s : Nat} {h : Nat → aE} {m : Nat} {I : Nat → Int32} {A : Nat → Nat → Int32} {LN : Nat → Int64} {id way least : Nat} {l lo ld : List Nat} {T : PkS} {ab : Nat → Nat} {x : Int32} (hm : m + 43 < n) (M_h : MAt h m I A LN) (hR : RX I A (id, way, least, l, lo, ld, T, ab)) (hB : RfB l lo ld) (hV : VOk (id, way, least, l, lo, ld, T, ab)) {Ψ : Option Value → aH → Prop} (kk : ∀ h' I' A' L' a W, tBy id way least l lo ld T ab x a W → Fr h h' (inM m) → MAt h' m I' A' L' → RX I' A' W → Ψ (some (.int a)) (n, s, h')) : WO (mM 10) 222 [.ref m, .int x] (n, s, h) Ψ := by
  have hR1 : RfX I A id way least l lo ld T ab := hR
  exact m_byteAt (d := 9) hm M_h hR1.2.1.1 hB.2.2.1 (fun b => kk h I A LN _ _ ⟨rfl, Or.inl ⟨b, rfl⟩⟩ Fr.rf M_h hR) (fun i hi e => kk h I A LN _ _ ⟨rfl, Or.inr ⟨i, hi, e, hR1.2.1.2 i hi⟩⟩ Fr.rf M_h hR)
