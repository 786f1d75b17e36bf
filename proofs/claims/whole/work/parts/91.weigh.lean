/-! points by counts: u = points + 1 (0 is less than one); giving more, taking away -/
def sumN (f : Nat → Nat) : Nat → Nat
  | 0 => 0
  | n + 1 => sumN f n + f n
def massU (u : Nat) : Nat := if u = 0 then 1 else u - 1
def u0F (cnt : Nat → Nat) (t o s : Nat) : Nat := if cnt s = 0 then 1 else if cnt s * 2 ^ o < t then 0 else cnt s * 2 ^ o / t + 1
def pickO (u : Nat → Nat) (r : Nat → Int) : Nat → Option Nat
  | 0 => none
  | i + 1 => match pickO u r i with
    | none => if 2 ≤ u i then some i else none
    | some b => if 2 ≤ u i ∧ r b < r i then some i else some b
def updN (f : Nat → Nat) (k x : Nat) : Nat → Nat := fun j => if j = k then x else f j
def updZ (f : Nat → Int) (k : Nat) (x : Int) : Nat → Int := fun j => if j = k then x else f j
def gvS (t N : Nat) (x : (Nat → Nat) × (Nat → Int)) : (Nat → Nat) × (Nat → Int) := match pickO x.1 x.2 N with
  | none => x
  | some b => (updN x.1 b (x.1 b + 1), updZ x.2 b (x.2 b - t))
def gvN (t N : Nat) (x : (Nat → Nat) × (Nat → Int)) : Nat → (Nat → Nat) × (Nat → Int)
  | 0 => x
  | k + 1 => gvS t N (gvN t N x k)
def mxO (u : Nat → Nat) : Nat → Nat
  | 0 => 0
  | i + 1 => if u (mxO u i) < u i then i else mxO u i
def twS (N : Nat) (u : Nat → Nat) : Nat → Nat := updN u (mxO u N) (u (mxO u N) - 1)
def twN (N : Nat) (u : Nat → Nat) : Nat → Nat → Nat
  | 0 => u
  | k + 1 => twS N (twN N u k)
def oI : Option Nat → Int32
  | none => -1
  | some b => nI b
theorem qI_toInt {z : Nat} (h : z < 2 ^ 31) : (qI z).toInt = (z : Int) - 1 := by
  cases z with
  | zero => decide
  | succ z =>
    rw [qIs, nI_toInt (by omega)]
    omega
theorem qI_le0 {z : Nat} (h : z < 2 ^ 31) : qI z ≤ 0 ↔ z ≤ 1 := by
  rw [Int32.le_iff_toInt_le, qI_toInt h]
  show (z : Int) - 1 ≤ 0 ↔ _
  omega
theorem qI_leI {a b : Nat} (ha : a < 2 ^ 31) (hb : b < 2 ^ 31) : qI a ≤ qI b ↔ a ≤ b := by
  rw [Int32.le_iff_toInt_le, qI_toInt ha, qI_toInt hb]
  omega
theorem qI_inc {z : Nat} (h : 1 ≤ z) : qI z + 1 = qI (z + 1) := by
  obtain ⟨k, rfl⟩ : ∃ k, z = k + 1 := ⟨z - 1, by omega⟩
  rw [qIs, qIs]
  exact nI_1 k
theorem qI_dcr {z : Nat} (h : 1 ≤ z) : qI z - 1 = qI (z - 1) := by
  obtain ⟨k, rfl⟩ : ∃ k, z = k + 1 := ⟨z - 1, by omega⟩
  rw [qIs, show k + 1 - 1 = k by omega]
  exact nI_m1 k
theorem qI_abs {z : Nat} (h : z < 2 ^ 31) : (if 0 ≤ qI z then qI z else 0 - qI z) = nI (massU z) := by
  cases z with
  | zero => decide
  | succ z =>
    rw [qIs, if_pos (nI_pos' (by omega))]
    rfl
theorem pick_lt {u : Nat → Nat} {r : Nat → Int} : ∀ {N b : Nat}, pickO u r N = some b → b < N ∧ 2 ≤ u b := by
  intro N
  induction N with
  | zero => intro b h; cases h
  | succ N ih =>
    intro b h
    unfold pickO at h
    cases hp : pickO u r N with
    | none =>
      rw [hp] at h
      dsimp only at h
      by_cases q : 2 ≤ u N
      · rw [if_pos q] at h
        cases h
        exact ⟨Nat.lt_succ_self _, q⟩
      · rw [if_neg q] at h
        cases h
    | some c =>
      rw [hp] at h
      dsimp only at h
      by_cases q : 2 ≤ u N ∧ r c < r N
      · rw [if_pos q] at h
        cases h
        exact ⟨Nat.lt_succ_self _, q.1⟩
      · rw [if_neg q] at h
        cases h
        have := ih hp
        exact ⟨by omega, this.2⟩
theorem mx_lt {u : Nat → Nat} : ∀ {N : Nat}, 0 < N → mxO u N < N := by
  intro N
  induction N with
  | zero => intro h; omega
  | succ N ih =>
    intro _
    unfold mxO
    by_cases q : u (mxO u N) < u N
    · rw [if_pos q]; omega
    · rw [if_neg q]
      rcases Nat.eq_zero_or_pos N with z | z
      · rw [z]; show 0 < 1; omega
      · have := ih z; omega
theorem updN_s {f : Nat → Nat} {k x : Nat} : updN f k x k = x := if_pos rfl
theorem updN_n {f : Nat → Nat} {k x j : Nat} (h : j ≠ k) : updN f k x j = f j := if_neg h
theorem updZ_s {f : Nat → Int} {k : Nat} {x : Int} : updZ f k x k = x := if_pos rfl
theorem updZ_n {f : Nat → Int} {k j : Nat} {x : Int} (h : j ≠ k) : updZ f k x j = f j := if_neg h
def UIs (pA : Nat → Int32) (u : Nat → Nat) (N : Nat) : Prop := ∀ s, s < N → pA s = qI (u s) ∧ u s ≤ 100000
def RIs (rA : Nat → Int32) (r : Nat → Int) (N : Nat) (B : Int) : Prop := ∀ s, s < N → (rA s).toInt = r s ∧ -B ≤ r s ∧ r s ≤ 100000000
set_option maxRecDepth 20000 in
theorem x_give {d n s : Nat} {h : Nat → aE} {k l t c : Nat} {od th : Int32} {pA rA : Nat → Int32} {u : Nat → Nat} {r : Nat → Int}  (hk : k + 6 < n) (hl : l < 1000) (hU : UIs pA u (l + 1)) (hub : ∀ s, s < l + 1 → u s + c ≤ 100000) (hR : RIs rA r (l + 1) 0) (ht : t ≤ 100000) (hc : c ≤ 600) (F_h_k : h k = .inr (8, [.int (nI l), .ref (k + 1), .ref (k + 2), .ref (k + 3), .ref (k + 4), .ref (k + 5), .ref (k + 6), .int od, .int th])) (F_h__k_1_ : h (k + 1) = .inl (1, (l + 1), .inl pA)) (F_h__k_2_ : h (k + 2) = .inl (1, (l + 1), .inl rA))  {Ψ : Option Value → aH → Prop} (kk : ∀ h' pA' rA', Fr h h' (fun j => j = k + 1 ∨ j = k + 2) → h' (k + 1) = .inl (1, l + 1, .inl pA') → h' (k + 2) = .inl (1, l + 1, .inl rA') → UIs pA' (gvN t (l + 1) (u, r) c).1 (l + 1) → Ψ none (n, s, h')) : WO (mM (d + 1)) 101 [.ref k, .int (nI c), .int (nI t)] (n, s, h) Ψ := by
  refine WO.of (Nat.le_of_ble_eq_true rfl) ?_
  have FR_h : Fr h h (fun j => j = k + 1 ∨ j = k + 2) := Fr.rf
  show WX (lk tX8_giveMore) (mM d) Ψ 0 [(0, .ref k), (1, .int (nI c)), (2, .int (nI t))] [] (n, s, h)
  refine WX.s1 rfl rfl ?_
  refine WX.s1 (L' := [(0, .ref k), (1, .int (nI c)), (2, .int (nI t)), (3, .int 0)]) rfl rfl ?_
  have lp : ∀ (tt j : Nat) (hL : Nat → aE) (pL rL : Nat → Int32), j + tt = c → Fr h hL (fun j => j = k + 1 ∨ j = k + 2) → hL (k + 1) = .inl (1, l + 1, .inl pL) → hL (k + 2) = .inl (1, l + 1, .inl rL) → UIs pL (gvN t (l + 1) (u, r) j).1 (l + 1) → (∀ s, s < l + 1 → (gvN t (l + 1) (u, r) j).1 s + (c - j) ≤ 100000) → RIs rL (gvN t (l + 1) (u, r) j).2 (l + 1) (j * t) → WX (lk tX8_giveMore) (mM d) Ψ 2 [(0, .ref k), (1, .int (nI c)), (2, .int (nI t)), (3, .int (nI j))] [] (n, s, hL) := by
    have F0 := F_h_k
    clear F_h_k F_h__k_1_ F_h__k_2_ FR_h
    intro tt
    induction tt with
    | zero =>
      intro j hL pL rL hj FR_hL F_hL__k_1_ F_hL__k_2_ hUL hbL hRL
      obtain rfl : j = c := by omega
      refine WX.s1 rfl rfl ?_
      refine WX.s1 rfl rfl ?_
      refine WX.icmp rfl (fun c_4 => ?_) (fun c_4 => absurd ((nI_leI (a := j) (b := j) (by omega) (by omega)).mpr (by omega)) c_4)
      clear c_4
      exact WX.ret0 rfl (kk hL pL rL FR_hL F_hL__k_1_ F_hL__k_2_ hUL)
    | succ tt ih =>
      intro j hL pL rL hj FR_hL F_hL__k_1_ F_hL__k_2_ hUL hbL hRL
      have F_hL_k : hL k = .inr (8, [.int (nI l), .ref (k + 1), .ref (k + 2), .ref (k + 3), .ref (k + 4), .ref (k + 5), .ref (k + 6), .int od, .int th]) := (FR_hL k (by omega)).trans F0
      generalize hg : (gvN t (l + 1) (u, r) j) = gx at hUL hbL hRL
      obtain ⟨uj, rj⟩ := gx
      have hUL : UIs pL uj (l + 1) := hUL
      have hbL : ∀ s, s < l + 1 → uj s + (c - j) ≤ 100000 := hbL
      have hRL : RIs rL rj (l + 1) (j * t) := hRL
      have hjt : j * t ≤ 600 * 100000 := Nat.mul_le_mul (by omega) ht
      have hgn : gvN t (l + 1) (u, r) (j + 1) = gvS t (l + 1) (uj, rj) := by
        show gvS t (l + 1) (gvN t (l + 1) (u, r) j) = _
        rw [hg]
      refine WX.s1 rfl rfl ?_
      refine WX.s1 rfl rfl ?_
      refine WX.icmp rfl (fun c_4 => absurd c_4 (fun zz_ => absurd ((nI_leI (a := c) (b := j) (by omega) (by omega)).mp zz_) (Nat.not_le.mpr (by omega)))) (fun c_4 => ?_)
      clear c_4
      refine WX.s1 rfl rfl ?_
      refine WX.s1 (L' := [(0, .ref k), (1, .int (nI c)), (2, .int (nI t)), (3, .int (nI j)), (4, .int (-1))]) rfl rfl ?_
      refine WX.s1 rfl rfl ?_
      refine WX.s1 (L' := [(0, .ref k), (1, .int (nI c)), (2, .int (nI t)), (3, .int (nI j)), (4, .int (-1)), (5, .int 0)]) rfl rfl ?_
      have in_ : ∀ (t2 i : Nat), i + t2 = l + 1 → WX (lk tX8_giveMore) (mM d) Ψ 13 [(0, .ref k), (1, .int (nI c)), (2, .int (nI t)), (3, .int (nI j)), (4, .int (oI (pickO uj rj i))), (5, .int (nI i))] [] (n, s, hL) := by
        intro t2
        induction t2 with
        | zero =>
          intro i hi
          have hstep : pickO uj rj (i + 1) = (match pickO uj rj i with | none => if 2 ≤ uj i then some i else none | some b => if 2 ≤ uj i ∧ rj b < rj i then some i else some b) := rfl
          cases hp : pickO uj rj i with
          | none =>
            show WX _ _ _ 13 [(0, .ref k), (1, .int (nI c)), (2, .int (nI t)), (3, .int (nI j)), (4, .int (-1)), (5, .int (nI i))] [] (n, s, hL)
            obtain rfl : i = l + 1 := by omega
            refine WX.s1 rfl rfl ?_
            refine WX.s1 rfl rfl ?_
            refine WX.get1 (fs := [.int (nI l), .ref (k + 1), .ref (k + 2), .ref (k + 3), .ref (k + 4), .ref (k + 5), .ref (k + 6), .int od, .int th]) rfl (by omega) (F_hL_k) rfl ?_
            refine WX.icmp rfl (fun c_19 => ?_) (fun c_19 => absurd ((nI_ltI (a := l) (b := l + 1) (by omega) (by omega)).mpr (by omega)) c_19)
            clear c_19
            refine WX.s1 rfl rfl ?_
            refine WX.if_ rfl (fun c_66 => ?_) (fun c_66 => absurd (by decide) c_66)
            refine WX.s1 (L' := [(0, .ref k), (1, .int (nI c)), (2, .int (nI t)), (3, .int ((nI j) + 1)), (4, .int (-1)), (5, .int (nI (l + 1)))]) rfl rfl ?_
            rw [show ((nI j) + 1) = nI (j + 1) from nI_add j 1]
            refine WX.s1 rfl rfl ?_
            refine WX.keep (y := 101) [0, 1, 2, 3] (show ([0, 1, 2, 3, 4, 5] : List Nat).Nodup by decide) rfl ?_
            have es : gvN t (l + 1) (u, r) (j + 1) = (uj, rj) := by rw [hgn]; unfold gvS; dsimp only; rw [hp]
            refine ih (j + 1) hL pL rL (by omega) FR_hL F_hL__k_1_ F_hL__k_2_ (by rw [es]; exact hUL) (fun s hs => by rw [es]; have := hbL s hs; show uj s + _ ≤ _; omega) (fun s hs => ?_)
            rw [es]
            obtain ⟨x1, x2, x3⟩ := hRL s hs
            refine ⟨x1, ?_, x3⟩
            have e9 : ((j + 1) * t : Nat) = j * t + t := by rw [Nat.add_mul, Nat.one_mul]
            show -(((j + 1) * t : Nat) : Int) ≤ rj s
            have x2 : -((j * t : Nat) : Int) ≤ rj s := x2
            omega
          | some b =>
            show WX _ _ _ 13 [(0, .ref k), (1, .int (nI c)), (2, .int (nI t)), (3, .int (nI j)), (4, .int (nI b)), (5, .int (nI i))] [] (n, s, hL)
            obtain ⟨hbi, hb2⟩ := pick_lt hp
            obtain rfl : i = l + 1 := by omega
            refine WX.s1 rfl rfl ?_
            refine WX.s1 rfl rfl ?_
            refine WX.get1 (fs := [.int (nI l), .ref (k + 1), .ref (k + 2), .ref (k + 3), .ref (k + 4), .ref (k + 5), .ref (k + 6), .int od, .int th]) rfl (by omega) (F_hL_k) rfl ?_
            refine WX.icmp rfl (fun c_19 => ?_) (fun c_19 => absurd ((nI_ltI (a := l) (b := l + 1) (by omega) (by omega)).mpr (by omega)) c_19)
            clear c_19
            refine WX.s1 rfl rfl ?_
            refine WX.if_ rfl (fun c_66 => absurd c_66 (nI_pos (by omega))) (fun c_66 => ?_)
            refine WX.s1 rfl rfl ?_
            refine WX.get1 (fs := [.int (nI l), .ref (k + 1), .ref (k + 2), .ref (k + 3), .ref (k + 4), .ref (k + 5), .ref (k + 6), .int od, .int th]) rfl (by omega) (F_hL_k) rfl ?_
            refine WX.s1 rfl rfl ?_
            refine WX.s1 rfl rfl ?_
            refine WX.iald1 rfl (Or.inl (by omega)) (F_hL__k_1_) (vp_in_nI (by omega) (by omega)) ?_
            rw [nI_clamp (by omega), (hUL b (by omega)).1]
            refine WX.s1 rfl rfl ?_
            refine WX.s1 (S' := [.int ((qI (uj b)) + 1), .int (nI b), .ref (k + 1)]) rfl rfl ?_
            rw [qI_inc (by omega)]
            refine WX.iastN rfl (by omega) (F_hL__k_1_) (vp_in_nI (by omega) (by omega)) (fun g79 h79 e_g79 e_h79 => ?_)
            try dsimp only at e_g79
            have F_h79_k : h79 k = .inr (8, [.int (nI l), .ref (k + 1), .ref (k + 2), .ref (k + 3), .ref (k + 4), .ref (k + 5), .ref (k + 6), .int od, .int th]) := by rw [e_h79, va_up_neq (nek1 (a := 1) (by decide))]; exact F_hL_k
            have F_h79__k_1_ : h79 (k + 1) = .inl (1, (l + 1), .inl g79) := by rw [e_h79]; exact va_up_eq
            have F_h79__k_2_ : h79 (k + 2) = .inl (1, (l + 1), .inl rL) := by rw [e_h79, va_up_neq (nek (a := 2) (b := 1) (by decide))]; exact F_hL__k_2_
            have FR_h79 : Fr h h79 (fun j => j = k + 1 ∨ j = k + 2) := FR_hL.zup e_h79 (by first | exact rfl | exact Or.inl rfl | exact Or.inr rfl | exact ⟨by decide, by decide⟩ | decide | omega)
            refine WX.s1 rfl rfl ?_
            refine WX.get1 (fs := [.int (nI l), .ref (k + 1), .ref (k + 2), .ref (k + 3), .ref (k + 4), .ref (k + 5), .ref (k + 6), .int od, .int th]) rfl (by omega) (F_h79_k) rfl ?_
            refine WX.s1 rfl rfl ?_
            refine WX.s1 rfl rfl ?_
            refine WX.iald1 rfl (Or.inl (by omega)) (F_h79__k_2_) (vp_in_nI (by omega) (by omega)) ?_
            rw [nI_clamp (by omega)]
            refine WX.s1 rfl rfl ?_
            refine WX.s1 (S' := [.int ((rL b) - (nI t)), .int (nI b), .ref (k + 2)]) rfl rfl ?_
            refine WX.iastN rfl (by omega) (F_h79__k_2_) (vp_in_nI (by omega) (by omega)) (fun g90 h90 e_g90 e_h90 => ?_)
            try dsimp only at e_g90
            have F_h90_k : h90 k = .inr (8, [.int (nI l), .ref (k + 1), .ref (k + 2), .ref (k + 3), .ref (k + 4), .ref (k + 5), .ref (k + 6), .int od, .int th]) := by rw [e_h90, va_up_neq (nek1 (a := 2) (by decide))]; exact F_h79_k
            have F_h90__k_1_ : h90 (k + 1) = .inl (1, (l + 1), .inl g79) := by rw [e_h90, va_up_neq (nek (a := 1) (b := 2) (by decide))]; exact F_h79__k_1_
            have F_h90__k_2_ : h90 (k + 2) = .inl (1, (l + 1), .inl g90) := by rw [e_h90]; exact va_up_eq
            have FR_h90 : Fr h h90 (fun j => j = k + 1 ∨ j = k + 2) := FR_h79.zup e_h90 (by first | exact rfl | exact Or.inl rfl | exact Or.inr rfl | exact ⟨by decide, by decide⟩ | decide | omega)
            refine WX.s1 (L' := [(0, .ref k), (1, .int (nI c)), (2, .int (nI t)), (3, .int ((nI j) + 1)), (4, .int (nI b)), (5, .int (nI (l + 1)))]) rfl rfl ?_
            rw [show ((nI j) + 1) = nI (j + 1) from nI_add j 1]
            refine WX.s1 rfl rfl ?_
            refine WX.keep (y := 101) [0, 1, 2, 3] (show ([0, 1, 2, 3, 4, 5] : List Nat).Nodup by decide) rfl ?_
            have es : gvN t (l + 1) (u, r) (j + 1) = (updN uj b (uj b + 1), updZ rj b (rj b - t)) := by rw [hgn]; unfold gvS; dsimp only; rw [hp]
            refine ih (j + 1) h90 g79 g90 (by omega) FR_h90 F_h90__k_1_ F_h90__k_2_ (fun s hs => ?_) (fun s hs => ?_) (fun s hs => ?_)
            · rw [es, e_g79, nI_clamp (by omega)]
              show upd pL b (qI (uj b + 1)) s = qI (updN uj b (uj b + 1) s) ∧ updN uj b (uj b + 1) s ≤ 100000
              by_cases q : s = b
              · rw [q, pk_us, updN_s]; exact ⟨rfl, by have := hbL b (by omega); omega⟩
              · rw [pk_un q, updN_n q]; exact hUL s hs
            · rw [es]
              show updN uj b (uj b + 1) s + (c - (j + 1)) ≤ 100000
              by_cases q : s = b
              · rw [q, updN_s]; have := hbL b (by omega); omega
              · rw [updN_n q]; have := hbL s hs; omega
            · rw [es, e_g90, nI_clamp (by omega)]
              show (upd rL b (rL b - nI t) s).toInt = updZ rj b (rj b - t) s ∧ -(((j + 1) * t : Nat) : Int) ≤ updZ rj b (rj b - t) s ∧ updZ rj b (rj b - t) s ≤ 100000000
              have e9 : ((j + 1) * t : Nat) = j * t + t := by rw [Nat.add_mul, Nat.one_mul]
              obtain ⟨x1, x2, x3⟩ := hRL s hs
              have x2 : -((j * t : Nat) : Int) ≤ rj s := x2
              by_cases q : s = b
              · subst q
                rw [pk_us, updZ_s, Int32.toInt_sub, x1, nI_toInt (by omega), Int.bmod_eq_of_le (by omega) (by omega)]
                omega
              · rw [pk_un q, updZ_n q]; exact ⟨x1, by omega, x3⟩
        | succ t2 ih2 =>
          intro i hi
          have hstep : pickO uj rj (i + 1) = (match pickO uj rj i with | none => if 2 ≤ uj i then some i else none | some b => if 2 ≤ uj i ∧ rj b < rj i then some i else some b) := rfl
          cases hp : pickO uj rj i with
          | none =>
            rw [hp] at hstep
            dsimp only at hstep
            show WX _ _ _ 13 [(0, .ref k), (1, .int (nI c)), (2, .int (nI t)), (3, .int (nI j)), (4, .int (-1)), (5, .int (nI i))] [] (n, s, hL)
            have hui := (hUL i (by omega)).2
            refine WX.s1 rfl rfl ?_
            refine WX.s1 rfl rfl ?_
            refine WX.get1 (fs := [.int (nI l), .ref (k + 1), .ref (k + 2), .ref (k + 3), .ref (k + 4), .ref (k + 5), .ref (k + 6), .int od, .int th]) rfl (by omega) (F_hL_k) rfl ?_
            refine WX.icmp rfl (fun c_19 => absurd c_19 (fun zz_ => absurd ((nI_ltI (a := l) (b := i) (by omega) (by omega)).mp zz_) (Nat.not_lt.mpr (by omega)))) (fun c_19 => ?_)
            clear c_19
            refine WX.s1 rfl rfl ?_
            refine WX.get1 (fs := [.int (nI l), .ref (k + 1), .ref (k + 2), .ref (k + 3), .ref (k + 4), .ref (k + 5), .ref (k + 6), .int od, .int th]) rfl (by omega) (F_hL_k) rfl ?_
            refine WX.s1 rfl rfl ?_
            refine WX.iald1 rfl (Or.inl (by omega)) (F_hL__k_1_) (vp_in_nI (by omega) (by omega)) ?_
            rw [nI_clamp (by omega), (hUL i (by omega)).1]
            refine WX.if_ rfl (fun c_29 => ?_) (fun c_29 => ?_)
            · skip
              refine WX.s1 (L' := [(0, .ref k), (1, .int (nI c)), (2, .int (nI t)), (3, .int (nI j)), (4, .int (-1)), (5, .int ((nI i) + 1))]) rfl rfl ?_
              rw [show ((nI i) + 1) = nI (i + 1) from nI_add i 1]
              refine WX.s1 rfl rfl ?_
              have hz : pickO uj rj (i + 1) = none := by
                rw [hstep]
                exact if_neg (fun z => absurd ((qI_le0 (by omega)).mp c_29) (by omega))
              have h9 := ih2 (i + 1) (by omega)
              rw [hz] at h9
              exact h9
            · skip
              refine WX.s1 rfl rfl ?_
              refine WX.if_ rfl (fun c_34 => ?_) (fun c_34 => absurd (by decide) c_34)
              refine WX.s1 rfl rfl ?_
              refine WX.s1 (L' := [(0, .ref k), (1, .int (nI c)), (2, .int (nI t)), (3, .int (nI j)), (4, .int (nI i)), (5, .int (nI i))]) rfl rfl ?_
              refine WX.s1 (L' := [(0, .ref k), (1, .int (nI c)), (2, .int (nI t)), (3, .int (nI j)), (4, .int (nI i)), (5, .int ((nI i) + 1))]) rfl rfl ?_
              rw [show ((nI i) + 1) = nI (i + 1) from nI_add i 1]
              refine WX.s1 rfl rfl ?_
              have hz : pickO uj rj (i + 1) = some i := by
                rw [hstep]
                exact if_pos (Nat.lt_of_not_le (fun z => c_29 ((qI_le0 (by omega)).mpr z)))
              have h9 := ih2 (i + 1) (by omega)
              rw [hz] at h9
              exact h9
          | some b =>
            rw [hp] at hstep
            dsimp only at hstep
            show WX _ _ _ 13 [(0, .ref k), (1, .int (nI c)), (2, .int (nI t)), (3, .int (nI j)), (4, .int (nI b)), (5, .int (nI i))] [] (n, s, hL)
            obtain ⟨hbi, hb2⟩ := pick_lt hp
            have hui := (hUL i (by omega)).2
            refine WX.s1 rfl rfl ?_
            refine WX.s1 rfl rfl ?_
            refine WX.get1 (fs := [.int (nI l), .ref (k + 1), .ref (k + 2), .ref (k + 3), .ref (k + 4), .ref (k + 5), .ref (k + 6), .int od, .int th]) rfl (by omega) (F_hL_k) rfl ?_
            refine WX.icmp rfl (fun c_19 => absurd c_19 (fun zz_ => absurd ((nI_ltI (a := l) (b := i) (by omega) (by omega)).mp zz_) (Nat.not_lt.mpr (by omega)))) (fun c_19 => ?_)
            clear c_19
            refine WX.s1 rfl rfl ?_
            refine WX.get1 (fs := [.int (nI l), .ref (k + 1), .ref (k + 2), .ref (k + 3), .ref (k + 4), .ref (k + 5), .ref (k + 6), .int od, .int th]) rfl (by omega) (F_hL_k) rfl ?_
            refine WX.s1 rfl rfl ?_
            refine WX.iald1 rfl (Or.inl (by omega)) (F_hL__k_1_) (vp_in_nI (by omega) (by omega)) ?_
            rw [nI_clamp (by omega), (hUL i (by omega)).1]
            refine WX.if_ rfl (fun c_29 => ?_) (fun c_29 => ?_)
            · skip
              refine WX.s1 (L' := [(0, .ref k), (1, .int (nI c)), (2, .int (nI t)), (3, .int (nI j)), (4, .int (nI b)), (5, .int ((nI i) + 1))]) rfl rfl ?_
              rw [show ((nI i) + 1) = nI (i + 1) from nI_add i 1]
              refine WX.s1 rfl rfl ?_
              have hz : pickO uj rj (i + 1) = some b := by
                rw [hstep]
                refine if_neg (fun z => ?_)
                first
                  | exact absurd ((qI_le0 (by omega)).mp c_29) (by omega)
                  | (have h1 := c_51; rw [Int32.le_iff_toInt_le, (hRL b (by omega)).1, (hRL i (by omega)).1] at h1; omega)
              have h9 := ih2 (i + 1) (by omega)
              rw [hz] at h9
              exact h9
            · skip
              refine WX.s1 rfl rfl ?_
              refine WX.if_ rfl (fun c_34 => absurd c_34 (nI_pos (by omega))) (fun c_34 => ?_)
              refine WX.s1 rfl rfl ?_
              refine WX.get1 (fs := [.int (nI l), .ref (k + 1), .ref (k + 2), .ref (k + 3), .ref (k + 4), .ref (k + 5), .ref (k + 6), .int od, .int th]) rfl (by omega) (F_hL_k) rfl ?_
              refine WX.s1 rfl rfl ?_
              refine WX.iald1 rfl (Or.inl (by omega)) (F_hL__k_2_) (vp_in_nI (by omega) (by omega)) ?_
              rw [nI_clamp (by omega)]
              refine WX.s1 rfl rfl ?_
              refine WX.get1 (fs := [.int (nI l), .ref (k + 1), .ref (k + 2), .ref (k + 3), .ref (k + 4), .ref (k + 5), .ref (k + 6), .int od, .int th]) rfl (by omega) (F_hL_k) rfl ?_
              refine WX.s1 rfl rfl ?_
              refine WX.iald1 rfl (Or.inl (by omega)) (F_hL__k_2_) (vp_in_nI (by omega) (by omega)) ?_
              rw [nI_clamp (by omega)]
              refine WX.icmp rfl (fun c_51 => ?_) (fun c_51 => ?_)
              · skip
                refine WX.s1 (L' := [(0, .ref k), (1, .int (nI c)), (2, .int (nI t)), (3, .int (nI j)), (4, .int (nI b)), (5, .int ((nI i) + 1))]) rfl rfl ?_
                rw [show ((nI i) + 1) = nI (i + 1) from nI_add i 1]
                refine WX.s1 rfl rfl ?_
                have hz : pickO uj rj (i + 1) = some b := by
                  rw [hstep]
                  refine if_neg (fun z => ?_)
                  first
                    | exact absurd ((qI_le0 (by omega)).mp c_29) (by omega)
                    | (have h1 := c_51; rw [Int32.le_iff_toInt_le, (hRL b (by omega)).1, (hRL i (by omega)).1] at h1; omega)
                have h9 := ih2 (i + 1) (by omega)
                rw [hz] at h9
                exact h9
              · skip
                refine WX.s1 rfl rfl ?_
                refine WX.s1 (L' := [(0, .ref k), (1, .int (nI c)), (2, .int (nI t)), (3, .int (nI j)), (4, .int (nI i)), (5, .int (nI i))]) rfl rfl ?_
                refine WX.s1 (L' := [(0, .ref k), (1, .int (nI c)), (2, .int (nI t)), (3, .int (nI j)), (4, .int (nI i)), (5, .int ((nI i) + 1))]) rfl rfl ?_
                rw [show ((nI i) + 1) = nI (i + 1) from nI_add i 1]
                refine WX.s1 rfl rfl ?_
                have hz : pickO uj rj (i + 1) = some i := by
                  rw [hstep]
                  exact if_pos ⟨Nat.lt_of_not_le (fun z => c_29 ((qI_le0 (by omega)).mpr z)), (by have h1 := Int32.not_le.mp c_51; rw [Int32.lt_iff_toInt_lt, (hRL b (by omega)).1, (hRL i (by omega)).1] at h1; exact h1)⟩
                have h9 := ih2 (i + 1) (by omega)
                rw [hz] at h9
                exact h9
      exact in_ (l + 1) 0 (by omega)
  exact lp c 0 h pA rA (by omega) FR_h F_h__k_1_ F_h__k_2_ hU (fun s hs => by have := hub s hs; show u s + _ ≤ _; omega) (fun s hs => by obtain ⟨x1, x2, x3⟩ := hR s hs; refine ⟨x1, ?_, x3⟩; have x2 : -(0 : Int) ≤ r s := x2; show -(((0 : Nat) : Int) * (t : Int)) ≤ r s; rw [show ((0 : Nat) : Int) = 0 from rfl, Int.zero_mul]; exact x2)
set_option maxRecDepth 20000 in
theorem x_take {d n s : Nat} {h : Nat → aE} {k l c : Nat} {od th : Int32} {pA : Nat → Int32} {u : Nat → Nat}  (hk : k + 6 < n) (hl : l < 1000) (hU : UIs pA u (l + 1)) (hc : c ≤ 100000) (hp : ∀ j, j < c → 1 ≤ twN (l + 1) u j (mxO (twN (l + 1) u j) (l + 1))) (F_h_k : h k = .inr (8, [.int (nI l), .ref (k + 1), .ref (k + 2), .ref (k + 3), .ref (k + 4), .ref (k + 5), .ref (k + 6), .int od, .int th])) (F_h__k_1_ : h (k + 1) = .inl (1, (l + 1), .inl pA))  {Ψ : Option Value → aH → Prop} (kk : ∀ h' pA', Fr h h' (fun j => j = k + 1) → h' (k + 1) = .inl (1, l + 1, .inl pA') → UIs pA' (twN (l + 1) u c) (l + 1) → Ψ none (n, s, h')) : WO (mM (d + 1)) 102 [.ref k, .int (nI c)] (n, s, h) Ψ := by
  refine WO.of (Nat.le_of_ble_eq_true rfl) ?_
  have FR_h : Fr h h (fun j => j = k + 1) := Fr.rf
  show WX (lk tX8_takeAway) (mM d) Ψ 0 [(0, .ref k), (1, .int (nI c))] [] (n, s, h)
  refine WX.s1 rfl rfl ?_
  refine WX.s1 (L' := [(0, .ref k), (1, .int (nI c)), (2, .int 0)]) rfl rfl ?_
  have lp : ∀ (tt j : Nat) (hL : Nat → aE) (pL : Nat → Int32), j + tt = c → Fr h hL (fun j => j = k + 1) → hL (k + 1) = .inl (1, l + 1, .inl pL) → UIs pL (twN (l + 1) u j) (l + 1) → WX (lk tX8_takeAway) (mM d) Ψ 2 [(0, .ref k), (1, .int (nI c)), (2, .int (nI j))] [] (n, s, hL) := by
    have F0 := F_h_k
    clear F_h_k F_h__k_1_ FR_h
    intro tt
    induction tt with
    | zero =>
      intro j hL pL hj FR_hL F_hL__k_1_ hUL
      obtain rfl : j = c := by omega
      refine WX.s1 rfl rfl ?_
      refine WX.s1 rfl rfl ?_
      refine WX.icmp rfl (fun c_4 => ?_) (fun c_4 => absurd ((nI_leI (a := j) (b := j) (by omega) (by omega)).mpr (by omega)) c_4)
      clear c_4
      exact WX.ret0 rfl (kk hL pL FR_hL F_hL__k_1_ hUL)
    | succ tt ih =>
      intro j hL pL hj FR_hL F_hL__k_1_ hUL
      have F_hL_k : hL k = .inr (8, [.int (nI l), .ref (k + 1), .ref (k + 2), .ref (k + 3), .ref (k + 4), .ref (k + 5), .ref (k + 6), .int od, .int th]) := (FR_hL k (by omega)).trans F0
      have hpj := hp j (by omega)
      have hgn : twN (l + 1) u (j + 1) = twS (l + 1) (twN (l + 1) u j) := rfl
      generalize hg : twN (l + 1) u j = uj at hUL hpj hgn
      refine WX.s1 rfl rfl ?_
      refine WX.s1 rfl rfl ?_
      refine WX.icmp rfl (fun c_4 => absurd c_4 (fun zz_ => absurd ((nI_leI (a := c) (b := j) (by omega) (by omega)).mp zz_) (Nat.not_le.mpr (by omega)))) (fun c_4 => ?_)
      clear c_4
      refine WX.s1 rfl rfl ?_
      refine WX.s1 (L' := [(0, .ref k), (1, .int (nI c)), (2, .int (nI j)), (3, .int 0)]) rfl rfl ?_
      refine WX.s1 rfl rfl ?_
      refine WX.s1 (L' := [(0, .ref k), (1, .int (nI c)), (2, .int (nI j)), (3, .int 0), (4, .int 1)]) rfl rfl ?_
      have in_ : ∀ (t2 i : Nat), i + t2 = l + 1 → 1 ≤ i → WX (lk tX8_takeAway) (mM d) Ψ 12 [(0, .ref k), (1, .int (nI c)), (2, .int (nI j)), (3, .int (nI (mxO uj i))), (4, .int (nI i))] [] (n, s, hL) := by
        intro t2
        induction t2 with
        | zero =>
          intro i hi hi1
          have hmx := mx_lt (u := uj) (N := i) (by omega)
          obtain rfl : i = l + 1 := by omega
          refine WX.s1 rfl rfl ?_
          refine WX.s1 rfl rfl ?_
          refine WX.get1 (fs := [.int (nI l), .ref (k + 1), .ref (k + 2), .ref (k + 3), .ref (k + 4), .ref (k + 5), .ref (k + 6), .int od, .int th]) rfl (by omega) (F_hL_k) rfl ?_
          refine WX.icmp rfl (fun c_18 => ?_) (fun c_18 => absurd ((nI_ltI (a := l) (b := l + 1) (by omega) (by omega)).mpr (by omega)) c_18)
          clear c_18
          refine WX.s1 rfl rfl ?_
          refine WX.get1 (fs := [.int (nI l), .ref (k + 1), .ref (k + 2), .ref (k + 3), .ref (k + 4), .ref (k + 5), .ref (k + 6), .int od, .int th]) rfl (by omega) (F_hL_k) rfl ?_
          refine WX.s1 rfl rfl ?_
          refine WX.s1 rfl rfl ?_
          refine WX.iald1 rfl (Or.inl (by omega)) (F_hL__k_1_) (vp_in_nI (by omega) (by omega)) ?_
          rw [nI_clamp (by omega), (hUL (mxO uj (l + 1)) (by omega)).1]
          refine WX.s1 rfl rfl ?_
          refine WX.s1 (S' := [.int ((qI (uj (mxO uj (l + 1)))) - 1), .int (nI (mxO uj (l + 1))), .ref (k + 1)]) rfl rfl ?_
          rw [qI_dcr hpj]
          refine WX.iastN rfl (by omega) (F_hL__k_1_) (vp_in_nI (by omega) (by omega)) (fun g55 h55 e_g55 e_h55 => ?_)
          try dsimp only at e_g55
          have F_h55_k : h55 k = .inr (8, [.int (nI l), .ref (k + 1), .ref (k + 2), .ref (k + 3), .ref (k + 4), .ref (k + 5), .ref (k + 6), .int od, .int th]) := by rw [e_h55, va_up_neq (nek1 (a := 1) (by decide))]; exact F_hL_k
          have F_h55__k_1_ : h55 (k + 1) = .inl (1, (l + 1), .inl g55) := by rw [e_h55]; exact va_up_eq
          have FR_h55 : Fr h h55 (fun j => j = k + 1) := FR_hL.zup e_h55 (by first | exact rfl | exact Or.inl rfl | exact Or.inr rfl | exact ⟨by decide, by decide⟩ | decide | omega)
          refine WX.s1 (L' := [(0, .ref k), (1, .int (nI c)), (2, .int ((nI j) + 1)), (3, .int (nI (mxO uj (l + 1)))), (4, .int (nI (l + 1)))]) rfl rfl ?_
          rw [show ((nI j) + 1) = nI (j + 1) from nI_add j 1]
          refine WX.s1 rfl rfl ?_
          refine WX.keep (y := 102) [0, 1, 2] (show ([0, 1, 2, 3, 4] : List Nat).Nodup by decide) rfl ?_
          refine ih (j + 1) h55 g55 (by omega) FR_h55 F_h55__k_1_ (fun s hs => ?_)
          rw [hgn, e_g55, nI_clamp (by omega)]
          unfold twS
          by_cases q : s = mxO uj (l + 1)
          · rw [q, pk_us, updN_s]; exact ⟨rfl, by have := (hUL (mxO uj (l + 1)) (by omega)).2; omega⟩
          · rw [pk_un q, updN_n q]; exact hUL s hs
        | succ t2 ih2 =>
          intro i hi hi1
          have hmx := mx_lt (u := uj) (N := i) (by omega)
          have hu1 := (hUL i (by omega)).2
          have hu2 := (hUL (mxO uj i) (by omega)).2
          have hstep : mxO uj (i + 1) = if uj (mxO uj i) < uj i then i else mxO uj i := rfl
          refine WX.s1 rfl rfl ?_
          refine WX.s1 rfl rfl ?_
          refine WX.get1 (fs := [.int (nI l), .ref (k + 1), .ref (k + 2), .ref (k + 3), .ref (k + 4), .ref (k + 5), .ref (k + 6), .int od, .int th]) rfl (by omega) (F_hL_k) rfl ?_
          refine WX.icmp rfl (fun c_18 => absurd c_18 (fun zz_ => absurd ((nI_ltI (a := l) (b := i) (by omega) (by omega)).mp zz_) (Nat.not_lt.mpr (by omega)))) (fun c_18 => ?_)
          clear c_18
          refine WX.s1 rfl rfl ?_
          refine WX.get1 (fs := [.int (nI l), .ref (k + 1), .ref (k + 2), .ref (k + 3), .ref (k + 4), .ref (k + 5), .ref (k + 6), .int od, .int th]) rfl (by omega) (F_hL_k) rfl ?_
          refine WX.s1 rfl rfl ?_
          refine WX.iald1 rfl (Or.inl (by omega)) (F_hL__k_1_) (vp_in_nI (by omega) (by omega)) ?_
          rw [nI_clamp (by omega), (hUL i (by omega)).1]
          refine WX.s1 rfl rfl ?_
          refine WX.get1 (fs := [.int (nI l), .ref (k + 1), .ref (k + 2), .ref (k + 3), .ref (k + 4), .ref (k + 5), .ref (k + 6), .int od, .int th]) rfl (by omega) (F_hL_k) rfl ?_
          refine WX.s1 rfl rfl ?_
          refine WX.iald1 rfl (Or.inl (by omega)) (F_hL__k_1_) (vp_in_nI (by omega) (by omega)) ?_
          rw [nI_clamp (by omega), (hUL (mxO uj i) (by omega)).1]
          refine WX.icmp rfl (fun c_34 => ?_) (fun c_34 => ?_)
          · skip
            refine WX.s1 (L' := [(0, .ref k), (1, .int (nI c)), (2, .int (nI j)), (3, .int (nI (mxO uj i))), (4, .int ((nI i) + 1))]) rfl rfl ?_
            rw [show ((nI i) + 1) = nI (i + 1) from nI_add i 1]
            refine WX.s1 rfl rfl ?_
            have hz : mxO uj (i + 1) = mxO uj i := by
              rw [hstep]
              exact if_neg (fun z => absurd ((qI_leI (by omega) (by omega)).mp c_34) (by omega))
            have h9 := ih2 (i + 1) (by omega) (by omega)
            rw [hz] at h9
            exact h9
          · skip
            refine WX.s1 rfl rfl ?_
            refine WX.s1 (L' := [(0, .ref k), (1, .int (nI c)), (2, .int (nI j)), (3, .int (nI i)), (4, .int (nI i))]) rfl rfl ?_
            refine WX.s1 (L' := [(0, .ref k), (1, .int (nI c)), (2, .int (nI j)), (3, .int (nI i)), (4, .int ((nI i) + 1))]) rfl rfl ?_
            rw [show ((nI i) + 1) = nI (i + 1) from nI_add i 1]
            refine WX.s1 rfl rfl ?_
            have hz : mxO uj (i + 1) = i := by
              rw [hstep]
              exact if_pos (Nat.lt_of_not_le (fun z => c_34 ((qI_leI (by omega) (by omega)).mpr z)))
            have h9 := ih2 (i + 1) (by omega) (by omega)
            rw [hz] at h9
            exact h9
      have e1 : mxO uj 1 = 0 := by show (if uj 0 < uj 0 then 0 else 0) = 0; exact if_neg (Nat.lt_irrefl _)
      have h9 := in_ l 1 (by omega) (Nat.le_refl _)
      rw [e1] at h9
      exact h9
  exact lp c 0 h pA (by omega) FR_h F_h__k_1_ hU
