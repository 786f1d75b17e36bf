/-! the reference's state: its numbers by their fields, its rows by their cells (m + c) -/
def MAt (h : Nat → aE) (m : Nat) (I : Nat → Int32) (AR : Nat → Nat → Int32) (LN : Nat → Int64) : Prop := h m = .inr (11, mObj m I) ∧ (∀ c, 1 ≤ c → c ≤ 43 → c ≠ 41 → h (m + c) = .inl (mTag c, mLen c, .inl (AR c))) ∧ h (m + 41) = .inl (2, 4, .inr (.inl LN))
abbrev inM (m : Nat) : Nat → Prop := fun j => m ≤ j ∧ j ≤ m + 43
def upA (AR : Nat → Nat → Int32) (c i : Nat) (v : Int32) : Nat → Nat → Int32 := fun b => if b = c then upd (AR c) i v else AR b
theorem upA_same {AR : Nat → Nat → Int32} {c i : Nat} {v : Int32} : upA AR c i v c = upd (AR c) i v := if_pos rfl
theorem upA_ne {AR : Nat → Nat → Int32} {c b i : Nat} {v : Int32} (h : b ≠ c) : upA AR c i v b = AR b := if_neg h
section MAtRows
variable {tb : aT} {o : aO} {Ψ : Option Value → aH → Prop} {pc : Nat} {L : aL} {S : List Value} {n s : Nat} {h : Nat → aE} {m : Nat} {I : Nat → Int32} {AR : Nat → Nat → Int32} {LN : Nat → Int64}
theorem MAt.obj {h2 : Nat → aE} {I2 : Nat → Int32} (M : MAt h m I AR LN) (e : h2 = va_up h m (.inr (11, mObj m I2))) : MAt h2 m I2 AR LN := ⟨by rw [e]; exact va_up_eq, fun c h1 h2 h3 => by rw [e]; exact (va_up_neq (by omega)).trans (M.2.1 c h1 h2 h3), by rw [e]; exact (va_up_neq (by omega)).trans M.2.2⟩
theorem MAt.row {h2 : Nat → aE} {c i : Nat} {v : Int32} (M : MAt h m I AR LN) (h1 : 1 ≤ c) (h43 : c ≤ 43) (hL : c ≠ 41) (e : h2 = va_up h (m + c) (.inl (mTag c, mLen c, .inl (upd (AR c) i v)))) : MAt h2 m I (upA AR c i v) LN := by
  refine ⟨by rw [e]; exact (va_up_neq (by omega)).trans M.1, fun b g1 g2 g3 => ?_, by rw [e]; exact (va_up_neq (by omega)).trans M.2.2⟩
  by_cases q : b = c
  · subst q
    rw [e, upA_same]
    exact va_up_eq
  · rw [e, upA_ne q]
    exact (va_up_neq (by omega)).trans (M.2.1 b g1 g2 g3)
theorem MAt.fr {h2 : Nat → aE} {A : Nat → Prop} (M : MAt h m I AR LN) (f : Fr h h2 A) (hA : ∀ j, inM m j → ¬ A j) : MAt h2 m I AR LN := ⟨(f m (hA m ⟨by omega, by omega⟩)).trans M.1, fun c h1 h2 h3 => (f _ (hA _ ⟨by omega, by omega⟩)).trans (M.2.1 c h1 h2 h3), (f _ (hA _ ⟨by omega, by omega⟩)).trans M.2.2⟩
theorem WX.mget {k nx : Nat} {v : Value} (hh : tb pc = some (.inl (a_get 11 k nx))) (hm : m + 43 < n) (M : MAt h m I AR LN) (hv : (mObj m I)[k]? = some v) (kk : WX tb o Ψ nx L (v :: S) (n, s, h)) : WX tb o Ψ pc L (.ref m :: S) (n, s, h) := WX.get1 hh (by omega) M.1 hv kk
theorem WX.mput {k nx : Nat} {v : Int32} {ty : FieldType} (hh : tb pc = some (.inl (a_put 11 k ty nx))) (hm : m + 43 < n) (M : MAt h m I AR LN) (hf : fits ty (.int v) = true) (hk : k < 64) (hs : ∀ x, (mObj m I).set k (.int x) = mObj m (upd I k x)) (kk : ∀ h' I', I' = upd I k v → MAt h' m I' AR LN → Fr h h' (inM m) → WX tb o Ψ nx L S (n, s, h')) : WX tb o Ψ pc L (.int v :: .ref m :: S) (n, s, h) := by
  refine WX.put1 hh (by omega) M.1 hk hf (hs v) (fun h' e => kk h' _ rfl (M.obj e) (fun j hj => ?_))
  rw [e]
  exact va_up_neq (fun q => hj ⟨by omega, by omega⟩)
theorem WX.mald {nx c : Nat} {i : Int32} (hh : tb pc = some (.inl (a_iald nx))) (hm : m + 43 < n) (M : MAt h m I AR LN) (h1 : 1 ≤ c) (h43 : c ≤ 43) (hL : c ≠ 41) (hH : c ≠ 32) (hi : vp_in i (mLen c)) (kk : WX tb o Ψ nx L (.int (AR c i.toNatClampNeg) :: S) (n, s, h)) : WX tb o Ψ pc L (.int i :: .ref (m + c) :: S) (n, s, h) := WX.iald1 hh (Or.inl (by omega)) ((M.2.1 c h1 h43 hL).trans (by unfold mTag; rw [if_neg hH])) hi kk
theorem WX.mast {nx c : Nat} {i v : Int32} (hh : tb pc = some (.inl (a_iast nx))) (hm : m + 43 < n) (M : MAt h m I AR LN) (h1 : 1 ≤ c) (h43 : c ≤ 43) (hL : c ≠ 41) (hH : c ≠ 32) (hi : vp_in i (mLen c)) (kk : ∀ h' A', A' = upA AR c i.toNatClampNeg v → MAt h' m I A' LN → Fr h h' (inM m) → WX tb o Ψ nx L S (n, s, h')) : WX tb o Ψ pc L (.int v :: .int i :: .ref (m + c) :: S) (n, s, h) := by
  have et : mTag c = 1 := by unfold mTag; rw [if_neg hH]
  refine WX.iastN hh (by omega) ((M.2.1 c h1 h43 hL).trans (by rw [et])) hi (fun g h' eg eh => ?_)
  subst eg
  refine kk h' _ rfl (M.row h1 h43 hL (by rw [et]; exact eh)) (fun j hj => ?_)
  rw [eh]
  exact va_up_neq (fun q => hj ⟨by omega, by omega⟩)
theorem WX.mzald {nx : Nat} {i : Int32} (hh : tb pc = some (.inl (a_zald nx))) (hm : m + 43 < n) (M : MAt h m I AR LN) (hi : vp_in i (mLen 32)) (kk : WX tb o Ψ nx L (.int (AR 32 i.toNatClampNeg) :: S) (n, s, h)) : WX tb o Ψ pc L (.int i :: .ref (m + 32) :: S) (n, s, h) := WX.zald1 hh (by omega) (M.2.1 32 (by decide) (by decide) (by decide)) hi kk
theorem WX.mzast {nx : Nat} {i v : Int32} (hh : tb pc = some (.inl (a_zast nx))) (hm : m + 43 < n) (M : MAt h m I AR LN) (hi : vp_in i (mLen 32)) (kk : ∀ h' A', A' = upA AR 32 i.toNatClampNeg (v &&& 1) → MAt h' m I A' LN → Fr h h' (inM m) → WX tb o Ψ nx L S (n, s, h')) : WX tb o Ψ pc L (.int v :: .int i :: .ref (m + 32) :: S) (n, s, h) := by
  refine WX.zastN hh (by omega) (M.2.1 32 (by decide) (by decide) (by decide)) hi (fun g h' eg eh => ?_)
  subst eg
  refine kk h' _ rfl (M.row (by decide) (by decide) (by decide) eh) (fun j hj => ?_)
  rw [eh]
  exact va_up_neq (fun q => hj ⟨by omega, by omega⟩)
end MAtRows
theorem MAt.of {h : Nat → aE} {m : Nat} (h0 : h m = .inr (11, mObj m mI0)) (B : ∀ c, c < 43 → h (m + (c + 1)) = mZ (c + 1)) : MAt h m mI0 (fun _ _ => 0) (fun _ => 0) := by
  refine ⟨h0, fun c h1 h43 hL => ?_, B 40 (by decide)⟩
  obtain ⟨c, rfl⟩ : ∃ b, c = b + 1 := ⟨c - 1, by omega⟩
  rw [B c (by omega)]
  unfold mZ
  rw [if_neg hL]
