/-! what the machine's heap is when the abstract one is H -/
abbrev cls : List vw_C := [(RX0, TX0, 5), (RX1, TX1, 18), (RX2, TX2, 5), (RX3, TX3, 13), (RX4, TX4, 5), (RX5, TX5, 12), (RX6, TX6, 9), (RX7, TX7, 5), (RX8, TX8, 9), (RX9, TX9, 6), (RX11, TX11, 12), (RX12, TX12, 64)]
abbrev tysOf (cy : Nat → ClassId) : List (ClassId × FieldType) := [(cy 0, .byte), (cy 1, .int), (cy 2, .long), (cy 3, .boolean)]
abbrev aA (z : Nat) : Nat → Prop := fun q => z ≤ q
def Fit : aE → Prop
  | .inl (t, _, .inl f) => t = 0 → ∀ j, fits .byte (.int (f j)) = true
  | _ => True
def Sim (D : va_G) (cy : Nat → ClassId) (z : Nat) (st : Nat → Nat) (sl : Nat → Nat) (sx : Nat → Nat → Int32) (H : aH) (Hp : Heap) : Prop :=
  Hp.size = z + H.1 ∧ H.1 < aBig ∧ (∀ k, k < H.1 → va_at D cls (z + k, cvE z st cy (H.2.2 k)) Hp ∧ Fit (H.2.2 k)) ∧ ∀ j, j < 10 → H.2.2 (aBig + j) = .inl (1, sl j, .inl (sx j))
def TBg : List Cond := lw_tbl.filter goodWord
def isNest : Cond → Bool
  | .fieldLinkNest .. => true
  | .methodLinkNest .. => true
  | _ => false
def NW : List Cond := lw_tbl.filter isNest
def sNm (j : Nat) : String := ["LITERAL_KNOWN", "DISTANCE_KNOWN", "MATCH_KNOWN", "LITERAL_BASES", "LITERAL_WIDTHS", "DISTANCE_BASES", "DISTANCE_WIDTHS", "MATCH_BASES", "MATCH_WIDTHS"].getD j ""
def aEnv (D : va_G) (cy : Nat → ClassId) (z : Nat) (st : Nat → Nat) (sl : Nat → Nat) (sx : Nat → Nat → Int32) (U : State) : Prop :=
  va_K D cls (tysOf cy) U ∧ (∀ j, j < 10 → va_T .int (st j) (sl j) (fun i => .int (sx j i)) (aA z) U U.heap) ∧ (∀ j, j < 9 → va_Z "StatePress" (sNm j) "[I" (.ref (st j)) (aA z) U U.heap) ∧ ∀ w ∈ NW, va_Nw w U
theorem cv_ref {z : Nat} {st : Nat → Nat} {k : Nat} (h : k < aBig) : cv z st (.ref k) = .ref (z + k) := by
  show Value.ref (cva z st k) = _
  unfold cva
  rw [if_pos h]
theorem cv_sref {z : Nat} {st : Nat → Nat} (j : Nat) : cv z st (.ref (aBig + j)) = .ref (st j) := by
  show Value.ref (cva z st (aBig + j)) = _
  unfold cva
  rw [if_neg (by omega), Nat.add_sub_cancel_left]
theorem Sim.at_ {D : va_G} {cy : Nat → ClassId} {z : Nat} {st sl : Nat → Nat} {sx : Nat → Nat → Int32} {H : aH} {Hp : Heap} (h : Sim D cy z st sl sx H Hp) {k : Nat} (hk : k < H.1) : va_P D cls [(z + k, cvE z st cy (H.2.2 k))] Hp := by
  intro i q hq
  match i, hq with
  | 0, hq =>
    cases hq
    exact (h.2.2.1 k hk).1
  | i + 1, hq => simp at hq
/-- one cell is another one now -/
theorem Sim.up {D : va_G} {cy : Nat → ClassId} {z : Nat} {st sl : Nat → Nat} {sx : Nat → Nat → Int32} {H : aH} {Hp Hp1 : Heap} (h : Sim D cy z st sl sx H Hp) {k : Nat} (hk : k < H.1) {e : aE} (he : va_at D cls (z + k, cvE z st cy e) Hp1) (hf : Fit e) (hz : Hp1.size = Hp.size) (ho : ∀ q, q ≠ z + k → Hp1[q]? = Hp[q]?) : Sim D cy z st sl sx (H.1, H.2.1, va_up H.2.2 k e) Hp1 := by
  refine ⟨hz.trans h.1, h.2.1, fun j hj => ?_, fun j hj => ?_⟩
  · by_cases e1 : j = k
    · subst e1
      show va_at D cls (z + j, cvE z st cy (va_up H.2.2 j e j)) Hp1 ∧ Fit (va_up H.2.2 j e j)
      simp only [va_up, if_pos]
      exact ⟨he, hf⟩
    · show va_at D cls (z + j, cvE z st cy (va_up H.2.2 k e j)) Hp1 ∧ Fit (va_up H.2.2 k e j)
      simp only [va_up, if_neg e1]
      exact ⟨(h.2.2.1 j hj).1.kept (ho _ (show z + j ≠ z + k by omega)), (h.2.2.1 j hj).2⟩
  · show va_up H.2.2 k e (aBig + j) = _
    have hb := h.2.1
    simp only [va_up, if_neg (show aBig + j ≠ k by omega)]
    exact h.2.2.2 j hj
/-- one cell more -/
theorem Sim.push {D : va_G} {cy : Nat → ClassId} {z : Nat} {st sl : Nat → Nat} {sx : Nat → Nat → Int32} {H : aH} {Hp Hp1 : Heap} (h : Sim D cy z st sl sx H Hp) {e : aE} {n : Nat} (hb : H.1 + 1 < aBig) (he : va_at D cls (z + H.1, cvE z st cy e) Hp1) (hf : Fit e) (hz : Hp1.size = Hp.size + 1) (ho : ∀ q, q < Hp.size → Hp1[q]? = Hp[q]?) : Sim D cy z st sl sx (H.1 + 1, H.2.1 + n, va_up H.2.2 H.1 e) Hp1 := by
  have h1 := h.1
  refine ⟨by show Hp1.size = z + (H.1 + 1); omega, hb, fun j hj => ?_, fun j hj => ?_⟩
  · by_cases e1 : j = H.1
    · subst e1
      show va_at D cls (z + H.1, cvE z st cy (va_up H.2.2 H.1 e H.1)) Hp1 ∧ Fit (va_up H.2.2 H.1 e H.1)
      simp only [va_up, if_pos]
      exact ⟨he, hf⟩
    · have hj : j < H.1 := by
        have : j < H.1 + 1 := hj
        omega
      show va_at D cls (z + j, cvE z st cy (va_up H.2.2 H.1 e j)) Hp1 ∧ Fit (va_up H.2.2 H.1 e j)
      simp only [va_up, if_neg e1]
      exact ⟨(h.2.2.1 j hj).1.kept (ho _ (show z + j < Hp.size by omega)), (h.2.2.1 j hj).2⟩
  · show va_up H.2.2 H.1 e (aBig + j) = _
    simp only [va_up, if_neg (show aBig + j ≠ H.1 by omega)]
    exact h.2.2.2 j hj
theorem vaS_put {z : Nat} {H0 H H1 : Heap} {locs : List Loc} {k i : Nat} (h : va_S (aA z) H0 H locs) (hz : H1.size = H.size) (oq : ∀ q : Nat, q ≠ z + k → H1[q]? = H[q]?) : va_S (aA z) H0 H1 (locs ++ [⟨z + k, i⟩]) := h.put hz oq (show z ≤ z + k by omega)
theorem vaS_push {z : Nat} {H0 H H1 : Heap} {locs : List Loc} (h : va_S (aA z) H0 H locs) (hz : H1.size = H.size + 1) (oq : ∀ q : Nat, q < H.size → H1[q]? = H[q]?) : va_S (aA z) H0 H1 locs := ⟨Nat.le_trans h.1 (by omega), fun q h1 h2 => (oq q (Nat.lt_of_lt_of_le h1 h.1)).trans (h.2.1 q h1 h2), h.2.2⟩
theorem fits_narrow {ty : FieldType} {v : Value} (hb : ty ≠ .byte) (hc : ty ≠ .char) (hs : ty ≠ .short) (h : fits ty v = true) : narrow ty v = v := by
  cases ty <;> cases v <;> first | rfl | (exact absurd rfl hb) | (exact absurd rfl hc) | (exact absurd rfl hs) | (simp [fits] at h; done) | skip
  rename_i v
  simp only [fits, Bool.or_eq_true, beq_iff_eq] at h
  rcases h with rfl | rfl <;> rfl
theorem fits_cv {z : Nat} {st : Nat → Nat} {ty : FieldType} {v : Value} : fits ty (cv z st v) = fits ty v := by
  cases v <;> cases ty <;> rfl
