/-! the reference: lay -/
def PlA (A : Nat → Nat → Int32) (T o N : Nat) (u : Nat → Nat) : Prop := ∀ k, k < 2 ^ o → A 26 (T + k) = nI (ownF u N o k) ∧ ∃ g, 2 ^ g ≤ massU (u (ownF u N o k)) + rkF u N o (ownF u N o k) k ∧ massU (u (ownF u N o k)) + rkF u N o (ownF u N o k) k < 2 ^ (g + 1) ∧ A 27 (T + k) = nI (o - g) ∧ A 28 (T + k) = nI ((massU (u (ownF u N o k)) + rkF u N o (ownF u N o k) k) * 2 ^ (o - g) - 2 ^ o)
def FaT (A B : Nat → Nat → Int32) (T o : Nat) : Prop := FaS A B (fun b => b = 26 ∨ b = 27 ∨ b = 28 ∨ b = 29) ∧ ∀ b q, b ≠ 29 → (q < T ∨ T + 2 ^ o ≤ q) → B b q = A b q
theorem FaT.rf {A : Nat → Nat → Int32} {T o : Nat} : FaT A A T o := ⟨FaS.rf, fun _ _ _ _ => rfl⟩
theorem FaT.ast {A B D : Nat → Nat → Int32} {T o c i : Nat} {v : Int32} (a : FaT A B T o) (e : D = upA B c (T + i) v) (hc : c = 26 ∨ c = 27 ∨ c = 28) (hi : i < 2 ^ o) : FaT A D T o := ⟨a.1.ast e (by omega), fun b q h1 h2 => by
  rw [e]
  by_cases z : b = c
  · rw [z, upA_same, pk_un (by omega), ← z]
    exact a.2 b q h1 h2
  · rw [upA_ne z]
    exact a.2 b q h1 h2⟩
theorem FaT.ast9 {A B D : Nat → Nat → Int32} {T o i : Nat} {v : Int32} (a : FaT A B T o) (e : D = upA B 29 i v) : FaT A D T o := ⟨a.1.ast e (by decide), fun b q h1 h2 => by
  rw [e, upA_ne h1]
  exact a.2 b q h1 h2⟩
def PsA (A : Nat → Nat → Int32) (T o N : Nat) (u : Nat → Nat) (J : Nat) : Prop := ∀ q, q < 2 ^ o → A 26 (T + q) = if cumU u N ≤ q ∨ wki o q < J then nI (ownF u N o q) else -1
theorem lowc_eq {o hi a b x : Nat} (h : lowc o hi a = lowc o hi b) (h1 : a ≤ x) (h2 : x < b) : ¬ wk o x < hi := by
  intro z
  have m1 : lowc o hi a ≤ lowc o hi x := sumN_mono _ h1
  have m2 : lowc o hi (x + 1) ≤ lowc o hi b := sumN_mono _ (by omega)
  have e : lowc o hi (x + 1) = lowc o hi x + (if wk o x < hi then 1 else 0) := rfl
  rw [if_pos z] at e
  omega
theorem nI_m1ne {a : Nat} (h : a < 2 ^ 31) : nI a ≠ -1 := fun z => absurd (show (-1 : Int32) < nI a from neg1lt h) (by rw [z]; decide)
theorem m1lt0 : (-1 : Int32) < 0 := by decide
theorem qI_leN {k z : Nat} (hk : k < 2 ^ 30) (hz : z < 2 ^ 30) : qI z ≤ nI k ↔ z ≤ k + 1 := by
  rw [Int32.le_iff_toInt_le, qI_toInt (by omega), nI_toInt (by omega)]
  omega
theorem log_un {x a b : Nat} (h1 : 2 ^ a ≤ x) (h2 : x < 2 ^ (a + 1)) (h3 : 2 ^ b ≤ x) (h4 : x < 2 ^ (b + 1)) : a = b := by
  rcases Nat.lt_trichotomy a b with z | z | z
  · have := Nat.pow_le_pow_right (show 0 < 2 by decide) (show a + 1 ≤ b by omega); omega
  · exact z
  · have := Nat.pow_le_pow_right (show 0 < 2 by decide) (show b + 1 ≤ a by omega); omega
set_option maxRecDepth 20000 in
theorem m_lay30 {d n s : Nat} {h : Nat → aE} {m : Nat} {I : Nat → Int32} {AR : Nat → Nat → Int32} {LN : Nat → Int64} {u : Nat → Nat} {f o T : Nat} (hm : m + 43 < n) (M_h : MAt h m I AR LN) (hf : f + 64 ≤ 64) (ho5 : o = 0 ∨ 5 ≤ o) (ho : o ≤ 9) (hT : T + 2 ^ o ≤ 2048) (hU : ∀ s, s < 64 → AR 30 (f + s) = qI (u s)) (hS : mSum u 64 = 2 ^ o)  {Ψ : Option Value → aH → Prop} (kk : ∀ h' A', Fr h h' (inM m) → MAt h' m I A' LN → FaS AR A' (fun b => b = 26 ∨ b = 27 ∨ b = 28 ∨ b = 29) → PlA A' T o 64 u → FaT AR A' T o → Ψ none (n, s, h')) : WO (mM (d + 2)) 165 [.ref m, .ref (m + 30), .int (nI f), .int 64, .int (nI o), .int (nI T)] (n, s, h) Ψ := by
  refine WO.of (Nat.le_of_ble_eq_true rfl) ?_
  have FR_h : Fr h h (inM m) := Fr.rf
  have FI_I : Fi I I (fun f => f = 40) := Fi.rf
  have h2o : 2 ^ o ≤ 2 ^ 9 := Nat.pow_le_pow_right (by decide) ho
  have h2p : 0 < 2 ^ o := Nat.pow_pos (by decide)
  have hcn := cum_neg u 64
  have hlall := lowc_all ho5 ho (cumU u 64) (by omega)
  have hub : ∀ s, s < 64 → u s ≤ 2 ^ o + 1 := fun s hs => by
    have h1 := sumN_get (fun s => massU (u s)) hs
    have h2 : sumN (fun s => massU (u s)) 64 = 2 ^ o := hS
    have h3 : massU (u s) ≤ 2 ^ o := by rw [← h2]; exact h1
    unfold massU at h3
    by_cases z : u s = 0
    · omega
    · rw [if_neg z] at h3; omega
  show WX (lk tX12_lay) (mM (d + 1)) Ψ 0 [(0, .ref m), (1, .ref (m + 30)), (2, .int (nI f)), (3, .int 64), (4, .int (nI o)), (5, .int (nI T))] [] (n, s, h)
  refine WX.s1 rfl rfl ?_
  refine WX.s1 rfl rfl ?_
  refine WX.s1 (S' := [.int (1 <<< ((nI o) &&& 31))]) rfl rfl ?_
  rw [sh1 o (by omega)]
  refine WX.s1 (L' := [(0, .ref m), (1, .ref (m + 30)), (2, .int (nI f)), (3, .int 64), (4, .int (nI o)), (5, .int (nI T)), (6, .int (nI (2 ^ o)))]) rfl rfl ?_
  refine WX.s1 rfl rfl ?_
  refine WX.s1 (L' := [(0, .ref m), (1, .ref (m + 30)), (2, .int (nI f)), (3, .int 64), (4, .int (nI o)), (5, .int (nI T)), (6, .int (nI (2 ^ o))), (7, .int 0)]) rfl rfl ?_
  have lp9 : ∀ (tt i : Nat) (hL : Nat → aE) (AL : Nat → Nat → Int32), i + tt = 2 ^ o → Fr h hL (inM m) → MAt hL m I AL LN → FaT AR AL T o → (∀ q, q < i → AL 26 (T + q) = -1) → WX (lk tX12_lay) (mM (d + 1)) Ψ 9 [(0, .ref m), (1, .ref (m + 30)), (2, .int (nI f)), (3, .int 64), (4, .int (nI o)), (5, .int (nI T)), (6, .int (nI (2 ^ o))), (7, .int (nI i))] [] (n, s, hL) := by
    clear M_h FR_h
    intro tt
    induction tt with
    | zero =>
      intro i hL AL hi FR_hL M_hL FA_AL hP
      obtain rfl : i = 2 ^ o := by omega
      refine WX.s1 rfl rfl ?_
      refine WX.s1 rfl rfl ?_
      refine WX.icmp rfl (fun c_13 => ?_) (fun c_13 => absurd ((nI_leI (a := 2 ^ o) (b := 2 ^ o) (by omega) (by omega)).mpr (by omega)) c_13)
      clear c_13
      refine WX.s1 rfl rfl ?_
      refine WX.s1 (L' := [(0, .ref m), (1, .ref (m + 30)), (2, .int (nI f)), (3, .int 64), (4, .int (nI o)), (5, .int (nI T)), (6, .int (nI (2 ^ o))), (7, .int (nI (2 ^ o)))]) rfl rfl ?_
      refine WX.s1 rfl rfl ?_
      refine WX.s1 (L' := [(0, .ref m), (1, .ref (m + 30)), (2, .int (nI f)), (3, .int 64), (4, .int (nI o)), (5, .int (nI T)), (6, .int (nI (2 ^ o))), (7, .int (nI (2 ^ o))), (8, .int 0)]) rfl rfl ?_
      have hP0 := hP
      clear hP
      have lp40 : ∀ (tt i : Nat) (hL : Nat → aE) (AL : Nat → Nat → Int32), i + tt = 64 → Fr h hL (inM m) → MAt hL m I AL LN → FaT AR AL T o → (∀ q, q < 2 ^ o → AL 26 (T + q) = if 2 ^ o - negU u i ≤ q then nI (ownF u 64 o q) else -1) → WX (lk tX12_lay) (mM (d + 1)) Ψ 40 [(0, .ref m), (1, .ref (m + 30)), (2, .int (nI f)), (3, .int 64), (4, .int (nI o)), (5, .int (nI T)), (6, .int (nI (2 ^ o))), (7, .int (nI (2 ^ o - negU u i))), (8, .int (nI i))] [] (n, s, hL) := by
        clear M_hL FR_hL FA_AL hP0
        intro tt
        induction tt with
        | zero =>
          intro i hL AL hi FR_hL M_hL FA_AL hP
          obtain rfl : i = 64 := by omega
          refine WX.s1 rfl rfl ?_
          refine WX.s1 rfl rfl ?_
          refine WX.icmp rfl (fun c_43 => ?_) (fun c_43 => absurd ((nI_leI (a := 64) (b := 64) (by omega) (by omega)).mpr (by omega)) c_43)
          clear c_43
          refine WX.s1 rfl rfl ?_
          refine WX.s1 (L' := [(0, .ref m), (1, .ref (m + 30)), (2, .int (nI f)), (3, .int 64), (4, .int (nI o)), (5, .int (nI T)), (6, .int (nI (2 ^ o))), (7, .int (nI (2 ^ o - negU u 64))), (8, .int 0)]) rfl rfl ?_
          refine WX.s1 rfl rfl ?_
          refine WX.s1 (L' := [(0, .ref m), (1, .ref (m + 30)), (2, .int (nI f)), (3, .int 64), (4, .int (nI o)), (5, .int (nI T)), (6, .int (nI (2 ^ o))), (7, .int (nI (2 ^ o - negU u 64))), (8, .int 0), (9, .int 0)]) rfl rfl ?_
          refine WX.keep (y := 165) [0, 1, 2, 3, 4, 5, 6, 8, 9] (show ([0, 1, 2, 3, 4, 5, 6, 7, 8, 9] : List Nat).Nodup by decide) rfl ?_
          have lp83 : ∀ (tt i x Jc : Nat) (hL : Nat → aE) (AL : Nat → Nat → Int32), i + tt = 64 → x ≤ Jc → Jc ≤ x + 1 → Jc ≤ 2 ^ o → x < 2 ^ o → lowc o (cumU u 64) Jc = cumU u i → Fr h hL (inM m) → MAt hL m I AL LN → FaT AR AL T o → PsA AL T o 64 u Jc → (∀ s, s < i → AL 29 s = nI (massU (u s))) → WX (lk tX12_lay) (mM (d + 1)) Ψ 83 [(0, .ref m), (1, .ref (m + 30)), (2, .int (nI f)), (3, .int 64), (4, .int (nI o)), (5, .int (nI T)), (6, .int (nI (2 ^ o))), (8, .int (nI (wk o x))), (9, .int (nI i))] [] (n, s, hL) := by
            clear M_hL FR_hL FA_AL hP
            intro tt
            induction tt with
            | zero =>
              intro i x Jc hL AL hi hxJ hJx hJo hxo hlc FR_hL M_hL FA_AL hP hN
              obtain rfl : i = 64 := by omega
              refine WX.s1 rfl rfl ?_
              refine WX.s1 rfl rfl ?_
              refine WX.icmp rfl (fun c_86 => ?_) (fun c_86 => absurd ((nI_leI (a := 64) (b := 64) (by omega) (by omega)).mpr (by omega)) c_86)
              clear c_86
              refine WX.s1 rfl rfl ?_
              refine WX.s1 (L' := [(0, .ref m), (1, .ref (m + 30)), (2, .int (nI f)), (3, .int 64), (4, .int (nI o)), (5, .int (nI T)), (6, .int (nI (2 ^ o))), (8, .int (nI (wk o x))), (9, .int 0)]) rfl rfl ?_
              refine WX.keep (y := 165) [0, 1, 2, 3, 4, 5, 6, 9] (show ([0, 1, 2, 3, 4, 5, 6, 8, 9] : List Nat).Nodup by decide) rfl ?_
              have hJ : Jc = 2 ^ o ∨ lowc o (cumU u 64) Jc = lowc o (cumU u 64) (2 ^ o) := Or.inr (by omega)
              have hQ : ∀ q, q < 2 ^ o → AL 26 (T + q) = nI (ownF u 64 o q) := by
                intro q hq
                rw [hP q hq]
                by_cases c1 : (cumU u 64) ≤ q
                · rw [if_pos (Or.inl c1)]
                · have hqw := wk_wki ho5 ho hq
                  have hql := wki_lt o q
                  have c2 : wki o q < Jc := by apply Classical.byContradiction; intro z; exact lowc_eq (show lowc o (cumU u 64) Jc = lowc o (cumU u 64) (2 ^ o) by omega) (by omega) hql (by rw [hqw]; omega)
                  rw [if_pos (Or.inr c2)]
              have hN0 := hN
              clear hN hP hJ
              have lp182 : ∀ (tt i : Nat) (hL : Nat → aE) (AL : Nat → Nat → Int32), i + tt = 2 ^ o → Fr h hL (inM m) → MAt hL m I AL LN → FaT AR AL T o → (∀ q, q < 2 ^ o → AL 26 (T + q) = nI (ownF u 64 o q)) → (∀ s, s < 64 → AL 29 s = nI (massU (u s) + rkF u 64 o s i)) → (∀ q, q < i → ∃ g, 2 ^ g ≤ (massU (u (ownF u 64 o q)) + rkF u 64 o (ownF u 64 o q) q) ∧ (massU (u (ownF u 64 o q)) + rkF u 64 o (ownF u 64 o q) q) < 2 ^ (g + 1) ∧ AL 27 (T + q) = nI (o - g) ∧ AL 28 (T + q) = nI ((massU (u (ownF u 64 o q)) + rkF u 64 o (ownF u 64 o q) q) * 2 ^ (o - g) - 2 ^ o)) → WX (lk tX12_lay) (mM (d + 1)) Ψ 182 [(0, .ref m), (1, .ref (m + 30)), (2, .int (nI f)), (3, .int 64), (4, .int (nI o)), (5, .int (nI T)), (6, .int (nI (2 ^ o))), (9, .int (nI i))] [] (n, s, hL) := by
                clear FR_hL M_hL FA_AL hQ hN0
                intro tt
                induction tt with
                | zero =>
                  intro i hL AL hi FR_hL M_hL FA_AL hQ hN hR
                  refine WX.s1 rfl rfl ?_
                  refine WX.s1 rfl rfl ?_
                  refine WX.icmp rfl (fun c_186 => ?_) (fun c_186 => absurd ((nI_leI (a := 2 ^ o) (b := i) (by omega) (by omega)).mpr (by omega)) c_186)
                  clear c_186
                  exact WX.ret0 rfl (kk hL AL FR_hL M_hL FA_AL.1 (fun q hq => ⟨hQ q hq, hR q (by omega)⟩) FA_AL)
                | succ tt ih =>
                  intro i hL AL hi FR_hL M_hL FA_AL hQ hN hR
                  have hol := own_lt (u := u) (N := 64) ho5 ho hS (show i < 2 ^ o by omega)
                  have hrk := rk_own (u := u) (N := 64) ho5 ho hS (show i < 2 ^ o by omega)
                  have hmb := hub (ownF u 64 o i) hol
                  have hmm : massU (u (ownF u 64 o i)) ≤ 2 ^ o := by have h1 := sumN_get (fun s => massU (u s)) hol; have h2 : sumN (fun s => massU (u s)) 64 = 2 ^ o := hS; rw [← h2]; exact h1
                  have hq := hQ i (by omega)
                  have hn := hN (ownF u 64 o i) hol
                  generalize ex : massU (u (ownF u 64 o i)) + rkF u 64 o (ownF u 64 o i) i = xx at hn
                  refine WX.s1 rfl rfl ?_
                  refine WX.s1 rfl rfl ?_
                  refine WX.icmp rfl (fun c_186 => absurd c_186 (fun zz_ => absurd ((nI_leI (a := 2 ^ o) (b := i) (by omega) (by omega)).mp zz_) (Nat.not_le.mpr (by omega)))) (fun c_186 => ?_)
                  clear c_186
                  refine WX.s1 rfl rfl ?_
                  refine WX.mget rfl hm M_hL rfl ?_
                  refine WX.s1 rfl rfl ?_
                  refine WX.mget rfl hm M_hL rfl ?_
                  refine WX.s1 rfl rfl ?_
                  refine WX.s1 rfl rfl ?_
                  refine WX.s1 (S' := [.int ((nI T) + (nI i)), .ref (m + 26), .ref (m + 29)]) rfl rfl ?_
                  rw [show ((nI T) + (nI i)) = nI (T + i) from nI_add T i]
                  refine WX.mald (c := 26) rfl hm M_hL (by decide) (by decide) (by decide) (by decide) (vp_in_nI (N := 2048) (by omega) (by decide)) ?_
                  rw [nI_clamp (by omega), hq]
                  refine WX.mald (c := 29) rfl hm M_hL (by decide) (by decide) (by decide) (by decide) (vp_in_nI (N := 64) (by omega) (by decide)) ?_
                  rw [nI_clamp (by omega), hn]
                  refine WX.s1 (L' := [(0, .ref m), (1, .ref (m + 30)), (2, .int (nI f)), (3, .int 64), (4, .int (nI o)), (5, .int (nI T)), (6, .int (nI (2 ^ o))), (9, .int (nI i)), (10, .int (nI xx))]) rfl rfl ?_
                  refine WX.s1 rfl rfl ?_
                  refine WX.mget rfl hm M_hL rfl ?_
                  refine WX.s1 rfl rfl ?_
                  refine WX.mget rfl hm M_hL rfl ?_
                  refine WX.s1 rfl rfl ?_
                  refine WX.s1 rfl rfl ?_
                  refine WX.s1 (S' := [.int ((nI T) + (nI i)), .ref (m + 26), .ref (m + 29)]) rfl rfl ?_
                  rw [show ((nI T) + (nI i)) = nI (T + i) from nI_add T i]
                  refine WX.mald (c := 26) rfl hm M_hL (by decide) (by decide) (by decide) (by decide) (vp_in_nI (N := 2048) (by omega) (by decide)) ?_
                  rw [nI_clamp (by omega), hq]
                  refine WX.s1 rfl rfl ?_
                  refine WX.s1 rfl rfl ?_
                  refine WX.s1 (S' := [.int ((nI xx) + 1), .int (nI (ownF u 64 o i)), .ref (m + 29)]) rfl rfl ?_
                  rw [show ((nI xx) + 1) = nI (xx + 1) from nI_add xx 1]
                  refine WX.mast (c := 29) rfl hm M_hL (by decide) (by decide) (by decide) (by decide) (vp_in_nI (N := 64) (by omega) (by decide)) (fun h224n1 A224n1 e_A224n1 M_h224n1 frh224n1 => ?_)
                  try dsimp only at e_A224n1
                  have FR_h224n1 := FR_hL.ztr frh224n1
                  clear M_hL FR_hL frh224n1
                  refine WX.s1 rfl rfl ?_
                  refine WX.mget rfl hm M_h224n1 rfl ?_
                  refine WX.s1 rfl rfl ?_
                  refine WX.s1 rfl rfl ?_
                  refine WX.s1 (S' := [.int ((nI T) + (nI i)), .ref (m + 27)]) rfl rfl ?_
                  rw [show ((nI T) + (nI i)) = nI (T + i) from nI_add T i]
                  refine WX.s1 rfl rfl ?_
                  refine WX.s1 rfl rfl ?_
                  refine WX.callC (vs := [.int (nI xx)]) rfl rfl rfl (Nat.le_of_ble_eq_true rfl) rfl ?_
                  refine m_log (by omega) (by omega) (fun gg g1 g2 => ?_)
                  have hgo : gg ≤ o := by apply Classical.byContradiction; intro z; have := Nat.pow_le_pow_right (show 0 < 2 by decide) (show o + 1 ≤ gg by omega); rw [Nat.pow_succ] at this; omega
                  have hxo : 2 ^ o ≤ xx * 2 ^ (o - gg) := by have := Nat.mul_le_mul_right (2 ^ (o - gg)) g1; rw [← Nat.pow_add, show gg + (o - gg) = o by omega] at this; exact this
                  have hxb : xx * 2 ^ (o - gg) ≤ 2 ^ 10 * 2 ^ 9 := Nat.mul_le_mul (by omega) (Nat.pow_le_pow_right (by decide) (by omega))
                  show WX _ _ _ 241 [(0, .ref m), (1, .ref (m + 30)), (2, .int (nI f)), (3, .int 64), (4, .int (nI o)), (5, .int (nI T)), (6, .int (nI (2 ^ o))), (9, .int (nI i)), (10, .int (nI xx))] [.int (nI gg), .int (nI o), .int (nI (T + i)), .ref (m + 27)] (n, s, h224n1)
                  refine WX.s1 (S' := [.int ((nI o) - (nI gg)), .int (nI (T + i)), .ref (m + 27)]) rfl rfl ?_
                  rw [nI_subN hgo]
                  refine WX.mast (c := 27) rfl hm M_h224n1 (by decide) (by decide) (by decide) (by decide) (vp_in_nI (N := 2048) (by omega) (by decide)) (fun h242n2 A242n2 e_A242n2 M_h242n2 frh242n2 => ?_)
                  try dsimp only at e_A242n2
                  have FR_h242n2 := FR_h224n1.ztr frh242n2
                  clear M_h224n1 FR_h224n1 frh242n2
                  refine WX.s1 rfl rfl ?_
                  refine WX.mget rfl hm M_h242n2 rfl ?_
                  refine WX.s1 rfl rfl ?_
                  refine WX.s1 rfl rfl ?_
                  refine WX.s1 (S' := [.int ((nI T) + (nI i)), .ref (m + 28)]) rfl rfl ?_
                  rw [show ((nI T) + (nI i)) = nI (T + i) from nI_add T i]
                  refine WX.s1 rfl rfl ?_
                  refine WX.s1 rfl rfl ?_
                  refine WX.s1 rfl rfl ?_
                  refine WX.callC (vs := [.int (nI xx)]) rfl rfl rfl (Nat.le_of_ble_eq_true rfl) rfl ?_
                  refine m_log (by omega) (by omega) (fun g3 g4 g5 => ?_)
                  obtain rfl : g3 = gg := log_un g4 g5 g1 g2
                  show WX _ _ _ 261 [(0, .ref m), (1, .ref (m + 30)), (2, .int (nI f)), (3, .int 64), (4, .int (nI o)), (5, .int (nI T)), (6, .int (nI (2 ^ o))), (9, .int (nI i)), (10, .int (nI xx))] [.int (nI g3), .int (nI o), .int (nI xx), .int (nI (T + i)), .ref (m + 28)] (n, s, h242n2)
                  refine WX.s1 (S' := [.int ((nI o) - (nI g3)), .int (nI xx), .int (nI (T + i)), .ref (m + 28)]) rfl rfl ?_
                  rw [nI_subN hgo]
                  refine WX.s1 (S' := [.int ((nI xx) <<< ((nI (o - g3)) &&& 31)), .int (nI (T + i)), .ref (m + 28)]) rfl rfl ?_
                  rw [pk_shlN _ (o - g3) (sm31 _ (by omega)) (by omega)]
                  refine WX.s1 rfl rfl ?_
                  refine WX.s1 (S' := [.int ((nI (xx * 2 ^ (o - g3))) - (nI (2 ^ o))), .int (nI (T + i)), .ref (m + 28)]) rfl rfl ?_
                  rw [nI_subN hxo]
                  refine WX.mast (c := 28) rfl hm M_h242n2 (by decide) (by decide) (by decide) (by decide) (vp_in_nI (N := 2048) (by omega) (by decide)) (fun h266n3 A266n3 e_A266n3 M_h266n3 frh266n3 => ?_)
                  try dsimp only at e_A266n3
                  have FR_h266n3 := FR_h242n2.ztr frh266n3
                  clear M_h242n2 FR_h242n2 frh266n3
                  refine WX.s1 (L' := [(0, .ref m), (1, .ref (m + 30)), (2, .int (nI f)), (3, .int 64), (4, .int (nI o)), (5, .int (nI T)), (6, .int (nI (2 ^ o))), (9, .int ((nI i) + 1)), (10, .int (nI xx))]) rfl rfl ?_
                  rw [show ((nI i) + 1) = nI (i + 1) from nI_add i 1]
                  refine WX.s1 rfl rfl ?_
                  refine WX.keep (y := 165) [0, 1, 2, 3, 4, 5, 6, 9] (show ([0, 1, 2, 3, 4, 5, 6, 9, 10] : List Nat).Nodup by decide) rfl ?_
                  rw [nI_clamp (by omega)] at e_A224n1 e_A242n2 e_A266n3
                  refine ih (i + 1) h266n3 A266n3 (by omega) FR_h266n3 M_h266n3 (((FA_AL.ast9 e_A224n1).ast e_A242n2 (by decide) (by omega)).ast e_A266n3 (by decide) (by omega)) (fun q hq2 => by rw [e_A266n3, upA_ne (by decide), e_A242n2, upA_ne (by decide), e_A224n1, upA_ne (by decide)]; exact hQ q hq2) (fun s hs => ?_) (fun q hq2 => ?_)
                  · rw [e_A266n3, upA_ne (by decide), e_A242n2, upA_ne (by decide), e_A224n1, upA_same, rk_succ]
                    by_cases z : s = ownF u 64 o i
                    · rw [z, pk_us, show isE (ownF u 64 o i) (ownF u 64 o i) = 1 from if_pos rfl, ← Nat.add_assoc, ex]
                    · rw [pk_un z, show isE (ownF u 64 o i) s = 0 from if_neg (fun y => z y.symm), Nat.add_zero]; exact hN s hs
                  · by_cases z : q = i
                    · subst z
                      rw [ex]
                      exact ⟨g3, g4, g5, by rw [e_A266n3, upA_ne (by decide), e_A242n2, upA_same, pk_us], by rw [e_A266n3, upA_same, pk_us]⟩
                    · obtain ⟨g, y1, y2, y3, y4⟩ := hR q (by omega)
                      exact ⟨g, y1, y2, by rw [e_A266n3, upA_ne (by decide), e_A242n2, upA_same, pk_un (by omega), e_A224n1, upA_ne (by decide)]; exact y3, by rw [e_A266n3, upA_same, pk_un (by omega), e_A242n2, upA_ne (by decide), e_A224n1, upA_ne (by decide)]; exact y4⟩
              exact lp182 (2 ^ o) 0 hL AL (by omega) FR_hL M_hL FA_AL hQ (fun s hs => hN0 s hs) (fun q hq => absurd hq (Nat.not_lt_zero q))
            | succ tt ih =>
              intro i x Jc hL AL hi hxJ hJx hJo hxo hlc FR_hL M_hL FA_AL hP hN
              have hui := hub i (by omega)
              have hcs : cumU u (i + 1) = cumU u i + (u i - 1) := rfl
              have hcl : cumU u (i + 1) ≤ cumU u 64 := sumN_mono _ (by omega)
              refine WX.s1 rfl rfl ?_
              refine WX.s1 rfl rfl ?_
              refine WX.icmp rfl (fun c_86 => absurd c_86 (fun zz_ => absurd ((nI_leI (a := 64) (b := i) (by omega) (by omega)).mp zz_) (Nat.not_le.mpr (by omega)))) (fun c_86 => ?_)
              clear c_86
              refine WX.s1 rfl rfl ?_
              refine WX.s1 (L' := [(0, .ref m), (1, .ref (m + 30)), (2, .int (nI f)), (3, .int 64), (4, .int (nI o)), (5, .int (nI T)), (6, .int (nI (2 ^ o))), (8, .int (nI (wk o x))), (9, .int (nI i)), (10, .int 0)]) rfl rfl ?_
              have lp92 : ∀ (t2 k x Jc : Nat) (hL : Nat → aE) (AL : Nat → Nat → Int32), k + t2 = u i - 1 → x ≤ Jc → Jc ≤ x + 1 → Jc ≤ 2 ^ o → x < 2 ^ o → lowc o (cumU u 64) Jc = cumU u i + k → Fr h hL (inM m) → MAt hL m I AL LN → FaT AR AL T o → PsA AL T o 64 u Jc → (∀ s, s < i → AL 29 s = nI (massU (u s))) → WX (lk tX12_lay) (mM (d + 1)) Ψ 92 [(0, .ref m), (1, .ref (m + 30)), (2, .int (nI f)), (3, .int 64), (4, .int (nI o)), (5, .int (nI T)), (6, .int (nI (2 ^ o))), (8, .int (nI (wk o x))), (9, .int (nI i)), (10, .int (nI k))] [] (n, s, hL) := by
                clear FR_hL M_hL FA_AL hP hN hlc hxJ hJx hJo hxo
                intro t2
                induction t2 with
                | zero =>
                  intro k x Jc hL AL hk hxJ hJx hJo hxo hlc FR_hL M_hL FA_AL hP hN
                  refine WX.s1 rfl rfl ?_
                  refine WX.s1 rfl rfl ?_
                  refine WX.s1 rfl rfl ?_
                  refine WX.s1 rfl rfl ?_
                  refine WX.s1 (S' := [.int ((nI f) + (nI i)), .ref (m + 30), .int (nI k)]) rfl rfl ?_
                  rw [show ((nI f) + (nI i)) = nI (f + i) from nI_add f i]
                  refine WX.mald (c := 30) rfl hm M_hL (by decide) (by decide) (by decide) (by decide) (vp_in_nI (N := 64) (by omega) (by decide)) ?_
                  rw [nI_clamp (by omega), FA_AL.1 30 (by decide), hU i (by omega)]
                  refine WX.icmp rfl (fun c_100 => ?_) (fun c_100 => absurd ((qI_leN (by omega) (by omega)).mpr (by omega)) c_100)
                  refine WX.s1 rfl rfl ?_
                  refine WX.mget rfl hm M_hL rfl ?_
                  refine WX.s1 rfl rfl ?_
                  refine WX.s1 rfl rfl ?_
                  refine WX.s1 rfl rfl ?_
                  refine WX.s1 rfl rfl ?_
                  refine WX.s1 (S' := [.int ((nI f) + (nI i)), .ref (m + 30), .int (nI i), .ref (m + 29)]) rfl rfl ?_
                  rw [show ((nI f) + (nI i)) = nI (f + i) from nI_add f i]
                  refine WX.mald (c := 30) rfl hm M_hL (by decide) (by decide) (by decide) (by decide) (vp_in_nI (N := 64) (by omega) (by decide)) ?_
                  rw [nI_clamp (by omega), FA_AL.1 30 (by decide), hU i (by omega)]
                  refine WX.callC (vs := [.int (qI (u i))]) rfl rfl rfl (Nat.le_of_ble_eq_true rfl) rfl ?_
                  refine m_mass (by omega) ?_
                  show WX _ _ _ 172 [(0, .ref m), (1, .ref (m + 30)), (2, .int (nI f)), (3, .int 64), (4, .int (nI o)), (5, .int (nI T)), (6, .int (nI (2 ^ o))), (8, .int (nI (wk o x))), (9, .int (nI i)), (10, .int (nI k))] [.int (nI (massU (u i))), .int (nI i), .ref (m + 29)] (n, s, hL)
                  refine WX.mast (c := 29) rfl hm M_hL (by decide) (by decide) (by decide) (by decide) (vp_in_nI (N := 64) (by omega) (by decide)) (fun h172n4 A172n4 e_A172n4 M_h172n4 frh172n4 => ?_)
                  try dsimp only at e_A172n4
                  have FR_h172n4 := FR_hL.ztr frh172n4
                  clear M_hL FR_hL frh172n4
                  refine WX.s1 (L' := [(0, .ref m), (1, .ref (m + 30)), (2, .int (nI f)), (3, .int 64), (4, .int (nI o)), (5, .int (nI T)), (6, .int (nI (2 ^ o))), (8, .int (nI (wk o x))), (9, .int ((nI i) + 1)), (10, .int (nI k))]) rfl rfl ?_
                  rw [show ((nI i) + 1) = nI (i + 1) from nI_add i 1]
                  refine WX.s1 rfl rfl ?_
                  refine WX.keep (y := 165) [0, 1, 2, 3, 4, 5, 6, 8, 9] (show ([0, 1, 2, 3, 4, 5, 6, 8, 9, 10] : List Nat).Nodup by decide) rfl ?_
                  rw [nI_clamp (by omega)] at e_A172n4
                  refine ih (i + 1) x Jc h172n4 A172n4 (by omega) hxJ hJx hJo hxo (by omega) FR_h172n4 M_h172n4 (FA_AL.ast9 e_A172n4) (fun q hq => by rw [e_A172n4, upA_ne (by decide)]; exact hP q hq) (fun s hs => ?_)
                  rw [e_A172n4, upA_same]
                  by_cases z : s = i
                  · rw [z, pk_us]
                  · rw [pk_un z]; exact hN s (by omega)
                | succ t2 ih2 =>
                  intro k x Jc hL AL hk hxJ hJx hJo hxo hlc FR_hL M_hL FA_AL hP hN
                  refine WX.s1 rfl rfl ?_
                  refine WX.s1 rfl rfl ?_
                  refine WX.s1 rfl rfl ?_
                  refine WX.s1 rfl rfl ?_
                  refine WX.s1 (S' := [.int ((nI f) + (nI i)), .ref (m + 30), .int (nI k)]) rfl rfl ?_
                  rw [show ((nI f) + (nI i)) = nI (f + i) from nI_add f i]
                  refine WX.mald (c := 30) rfl hm M_hL (by decide) (by decide) (by decide) (by decide) (vp_in_nI (N := 64) (by omega) (by decide)) ?_
                  rw [nI_clamp (by omega), FA_AL.1 30 (by decide), hU i (by omega)]
                  refine WX.icmp rfl (fun c_100 => absurd c_100 (fun z => absurd ((qI_leN (by omega) (by omega)).mp z) (by omega))) (fun c_100 => ?_)
                  have lp103 : ∀ (t3 y : Nat), y + t3 = 2 ^ o → Jc ≤ y + 1 → lowc o (cumU u 64) (max Jc y) = cumU u i + k → WX (lk tX12_lay) (mM (d + 1)) Ψ 103 [(0, .ref m), (1, .ref (m + 30)), (2, .int (nI f)), (3, .int 64), (4, .int (nI o)), (5, .int (nI T)), (6, .int (nI (2 ^ o))), (8, .int (nI (wk o y))), (9, .int (nI i)), (10, .int (nI k))] [] (n, s, hL) := by
                    intro t3
                    induction t3 with
                    | zero =>
                      intro y hy hJy hly
                      exfalso
                      rw [show max Jc y = 2 ^ o by omega] at hly
                      omega
                    | succ t3 ih3 =>
                      intro y hy hJy hly
                      have hwy := wk_lt o y
                      have hPy := hP (wk o y) hwy
                      rw [wki_wk ho5 ho (by omega)] at hPy
                      by_cases hocc : (cumU u 64) ≤ wk o y ∨ y < Jc
                      · rw [if_pos hocc] at hPy
                        have hol := own_lt (u := u) (N := 64) ho5 ho hS hwy
                        refine WX.s1 rfl rfl ?_
                        refine WX.mget rfl hm M_hL rfl ?_
                        refine WX.s1 rfl rfl ?_
                        refine WX.s1 rfl rfl ?_
                        refine WX.s1 (S' := [.int ((nI T) + (nI (wk o y))), .ref (m + 26)]) rfl rfl ?_
                        rw [show ((nI T) + (nI (wk o y))) = nI (T + wk o y) from nI_add T (wk o y)]
                        refine WX.mald (c := 26) rfl hm M_hL (by decide) (by decide) (by decide) (by decide) (vp_in_nI (N := 2048) (by omega) (by decide)) ?_
                        rw [nI_clamp (by omega), hPy]
                        refine WX.if_ rfl (fun c_113 => absurd c_113 (fun zz_ => absurd ((nI_ltI (a := ownF u 64 o (wk o y)) (b := 0) (by omega) (by omega)).mp zz_) (Nat.not_lt.mpr (by omega)))) (fun c_113 => ?_)
                        clear c_113
                        refine WX.s1 rfl rfl ?_
                        refine WX.s1 rfl rfl ?_
                        refine WX.s1 rfl rfl ?_
                        refine WX.div rfl (by decide) ?_
                        rw [show nI (2 ^ o) / 2 = nI (2 ^ o / 2) from pk_div (by omega) (by decide) (by decide)]
                        refine WX.s1 (S' := [.int ((nI (wk o y)) + (nI (2 ^ o / 2)))]) rfl rfl ?_
                        rw [show ((nI (wk o y)) + (nI (2 ^ o / 2))) = nI (wk o y + 2 ^ o / 2) from nI_add (wk o y) (2 ^ o / 2)]
                        refine WX.s1 rfl rfl ?_
                        refine WX.s1 rfl rfl ?_
                        refine WX.div rfl (by decide) ?_
                        rw [show nI (2 ^ o) / 8 = nI (2 ^ o / 8) from pk_div (by omega) (by decide) (by decide)]
                        refine WX.s1 (S' := [.int ((nI (wk o y + 2 ^ o / 2)) + (nI (2 ^ o / 8)))]) rfl rfl ?_
                        rw [show ((nI (wk o y + 2 ^ o / 2)) + (nI (2 ^ o / 8))) = nI (wk o y + 2 ^ o / 2 + 2 ^ o / 8) from nI_add (wk o y + 2 ^ o / 2) (2 ^ o / 8)]
                        refine WX.s1 rfl rfl ?_
                        refine WX.s1 (S' := [.int ((nI (wk o y + 2 ^ o / 2 + 2 ^ o / 8)) + 3)]) rfl rfl ?_
                        rw [show ((nI (wk o y + 2 ^ o / 2 + 2 ^ o / 8)) + 3) = nI (wk o y + 2 ^ o / 2 + 2 ^ o / 8 + 3) from nI_add (wk o y + 2 ^ o / 2 + 2 ^ o / 8) 3]
                        refine WX.s1 rfl rfl ?_
                        refine WX.div rfl (nI_ne0 h2p (by omega)) ?_
                        rw [pk_rem (by omega) h2p (by omega), show (wk o y + 2 ^ o / 2 + 2 ^ o / 8 + 3) % 2 ^ o = wk o (y + 1) by rw [← wk_step]; unfold stp; congr 1; omega]
                        refine WX.s1 (L' := [(0, .ref m), (1, .ref (m + 30)), (2, .int (nI f)), (3, .int 64), (4, .int (nI o)), (5, .int (nI T)), (6, .int (nI (2 ^ o))), (8, .int (nI (wk o (y + 1)))), (9, .int (nI i)), (10, .int (nI k))]) rfl rfl ?_
                        refine WX.s1 rfl rfl ?_
                        refine ih3 (y + 1) (by omega) (by omega) ?_
                        rw [← hly]
                        rcases Nat.lt_or_ge y Jc with z | z
                        · rw [show max Jc (y + 1) = max Jc y by omega]
                        · rw [show max Jc (y + 1) = y + 1 by omega, show max Jc y = y by omega]
                          have e : lowc o (cumU u 64) (y + 1) = lowc o (cumU u 64) y + (if wk o y < (cumU u 64) then 1 else 0) := rfl
                          rw [e, if_neg (by omega)]
                          rfl
                      · rw [if_neg hocc] at hPy
                        have hfree : wk o y < (cumU u 64) ∧ Jc ≤ y := by omega
                        rw [show max Jc y = y by omega] at hly
                        have hown : ownF u 64 o (wk o y) = i := by
                          unfold ownF
                          rw [if_pos hfree.1, wki_wk ho5 ho (by omega)]
                          exact lsR_is (by omega) (by omega) _ (by omega)
                        refine WX.s1 rfl rfl ?_
                        refine WX.mget rfl hm M_hL rfl ?_
                        refine WX.s1 rfl rfl ?_
                        refine WX.s1 rfl rfl ?_
                        refine WX.s1 (S' := [.int ((nI T) + (nI (wk o y))), .ref (m + 26)]) rfl rfl ?_
                        rw [show ((nI T) + (nI (wk o y))) = nI (T + wk o y) from nI_add T (wk o y)]
                        refine WX.mald (c := 26) rfl hm M_hL (by decide) (by decide) (by decide) (by decide) (vp_in_nI (N := 2048) (by omega) (by decide)) ?_
                        rw [nI_clamp (by omega), hPy]
                        refine WX.if_ rfl (fun c_113 => ?_) (fun c_113 => absurd (m1lt0) c_113)
                        refine WX.s1 rfl rfl ?_
                        refine WX.mget rfl hm M_hL rfl ?_
                        refine WX.s1 rfl rfl ?_
                        refine WX.s1 rfl rfl ?_
                        refine WX.s1 (S' := [.int ((nI T) + (nI (wk o y))), .ref (m + 26)]) rfl rfl ?_
                        rw [show ((nI T) + (nI (wk o y))) = nI (T + wk o y) from nI_add T (wk o y)]
                        refine WX.s1 rfl rfl ?_
                        refine WX.mast (c := 26) rfl hm M_hL (by decide) (by decide) (by decide) (by decide) (vp_in_nI (N := 2048) (by omega) (by decide)) (fun h150n5 A150n5 e_A150n5 M_h150n5 frh150n5 => ?_)
                        try dsimp only at e_A150n5
                        have FR_h150n5 := FR_hL.ztr frh150n5
                        clear M_hL FR_hL frh150n5
                        refine WX.s1 (L' := [(0, .ref m), (1, .ref (m + 30)), (2, .int (nI f)), (3, .int 64), (4, .int (nI o)), (5, .int (nI T)), (6, .int (nI (2 ^ o))), (8, .int (nI (wk o y))), (9, .int (nI i)), (10, .int ((nI k) + 1))]) rfl rfl ?_
                        rw [show ((nI k) + 1) = nI (k + 1) from nI_add k 1]
                        refine WX.s1 rfl rfl ?_
                        rw [nI_clamp (by omega)] at e_A150n5
                        have els : lowc o (cumU u 64) (y + 1) = lowc o (cumU u 64) y + (if wk o y < (cumU u 64) then 1 else 0) := rfl
                        rw [if_pos hfree.1] at els
                        refine ih2 (k + 1) y (y + 1) h150n5 A150n5 (by omega) (by omega) (by omega) (by omega) (by omega) (by omega) FR_h150n5 M_h150n5 (FA_AL.ast e_A150n5 (by decide) hwy) (fun q hq => ?_) (fun s hs => by rw [e_A150n5, upA_ne (by decide)]; exact hN s hs)
                        rw [e_A150n5, upA_same]
                        by_cases z : q = wk o y
                        · rw [z, pk_us, wki_wk ho5 ho (by omega), if_pos (Or.inr (by omega)), hown]
                        · rw [pk_un (by omega), hP q hq]
                          have hqw := wk_wki ho5 ho hq
                          by_cases c1 : (cumU u 64) ≤ q
                          · rw [if_pos (Or.inl c1), if_pos (Or.inl c1)]
                          · by_cases c2 : wki o q < Jc
                            · rw [if_pos (Or.inr c2), if_pos (Or.inr (by omega))]
                            · have hny : wki o q ≠ y := fun e => z (by rw [← hqw, e])
                              have hno : ¬ wki o q < y := fun e => lowc_eq (hlc.trans hly.symm) (by omega) e (by rw [hqw]; omega)
                              rw [if_neg (by omega), if_neg (by omega)]
                  exact lp103 (2 ^ o - x) x (by omega) hJx (by rw [show max Jc x = Jc by omega]; exact hlc)
              exact lp92 (u i - 1) 0 x Jc hL AL (by omega) hxJ hJx hJo hxo hlc FR_hL M_hL FA_AL hP hN
          have hw0 : wk o 0 = 0 := by unfold wk; rw [Nat.zero_mul]; exact Nat.zero_mod _
          have h9 := lp83 64 0 0 0 hL AL (by omega) (Nat.le_refl _) (by omega) (Nat.zero_le _) h2p rfl FR_hL M_hL FA_AL (fun q hq => ?_) (fun s hs => absurd hs (Nat.not_lt_zero s))
          · rw [hw0] at h9; exact h9
          · rw [hP q hq]
            by_cases c1 : (cumU u 64) ≤ q
            · rw [if_pos (by omega), if_pos (Or.inl c1)]
            · rw [if_neg (by omega), if_neg (by omega)]
        | succ tt ih =>
          intro i hL AL hi FR_hL M_hL FA_AL hP
          have hui := hub i (by omega)
          have hnn : negU u (i + 1) = negU u i + (if u i = 0 then 1 else 0) := rfl
          have hni := sumN_mono (fun x => if u x = 0 then 1 else 0) (show i + 1 ≤ 64 by omega)
          have hni2 : negU u (i + 1) ≤ negU u 64 := hni
          refine WX.s1 rfl rfl ?_
          refine WX.s1 rfl rfl ?_
          refine WX.icmp rfl (fun c_43 => absurd c_43 (fun zz_ => absurd ((nI_leI (a := 64) (b := i) (by omega) (by omega)).mp zz_) (Nat.not_le.mpr (by omega)))) (fun c_43 => ?_)
          clear c_43
          refine WX.s1 rfl rfl ?_
          refine WX.s1 rfl rfl ?_
          refine WX.s1 rfl rfl ?_
          refine WX.s1 (S' := [.int ((nI f) + (nI i)), .ref (m + 30)]) rfl rfl ?_
          rw [show ((nI f) + (nI i)) = nI (f + i) from nI_add f i]
          refine WX.mald (c := 30) rfl hm M_hL (by decide) (by decide) (by decide) (by decide) (vp_in_nI (N := 64) (by omega) (by decide)) ?_
          rw [nI_clamp (by omega), FA_AL.1 30 (by decide), hU i (by omega)]
          refine WX.s1 rfl rfl ?_
          refine WX.icmp rfl (fun c_53 => ?_) (fun c_53 => ?_)
          · skip
            refine WX.s1 (L' := [(0, .ref m), (1, .ref (m + 30)), (2, .int (nI f)), (3, .int 64), (4, .int (nI o)), (5, .int (nI T)), (6, .int (nI (2 ^ o))), (7, .int (nI (2 ^ o - negU u i))), (8, .int ((nI i) + 1))]) rfl rfl ?_
            rw [show ((nI i) + 1) = nI (i + 1) from nI_add i 1]
            refine WX.s1 rfl rfl ?_
            have hz : ¬ u i = 0 := fun z => c_53 (by rw [z]; rfl)
            have hnn2 : negU u (i + 1) = negU u i := by rw [if_neg hz] at hnn; omega
            have h9 := ih (i + 1) hL AL (by omega) FR_hL M_hL FA_AL (by rw [hnn2]; exact hP)
            rw [hnn2] at h9
            exact h9
          · skip
            have hz : u i = 0 := by
              apply Classical.byContradiction
              intro z
              have c := Classical.not_not.mp c_53
              rw [qI_pr (by omega)] at c
              exact nI_m1ne (by omega) c
            rw [if_pos hz] at hnn
            refine WX.s1 (L' := [(0, .ref m), (1, .ref (m + 30)), (2, .int (nI f)), (3, .int 64), (4, .int (nI o)), (5, .int (nI T)), (6, .int (nI (2 ^ o))), (7, .int ((nI (2 ^ o - negU u i)) + (-1))), (8, .int (nI i))]) rfl rfl ?_
            rw [show nI (2 ^ o - negU u i) + (-1) = nI (2 ^ o - negU u (i + 1)) from (qI_dec _).trans ((qI_pr (by omega)).trans (congrArg nI (by omega)))]
            refine WX.s1 rfl rfl ?_
            refine WX.mget rfl hm M_hL rfl ?_
            refine WX.s1 rfl rfl ?_
            refine WX.s1 rfl rfl ?_
            refine WX.s1 (S' := [.int ((nI T) + (nI (2 ^ o - negU u (i + 1)))), .ref (m + 26)]) rfl rfl ?_
            rw [show ((nI T) + (nI (2 ^ o - negU u (i + 1)))) = nI (T + (2 ^ o - negU u (i + 1))) from nI_add T (2 ^ o - negU u (i + 1))]
            refine WX.s1 rfl rfl ?_
            refine WX.mast (c := 26) rfl hm M_hL (by decide) (by decide) (by decide) (by decide) (vp_in_nI (N := 2048) (by omega) (by decide)) (fun h70n6 A70n6 e_A70n6 M_h70n6 frh70n6 => ?_)
            try dsimp only at e_A70n6
            have FR_h70n6 := FR_hL.ztr frh70n6
            clear M_hL FR_hL frh70n6
            refine WX.s1 (L' := [(0, .ref m), (1, .ref (m + 30)), (2, .int (nI f)), (3, .int 64), (4, .int (nI o)), (5, .int (nI T)), (6, .int (nI (2 ^ o))), (7, .int (nI (2 ^ o - negU u (i + 1)))), (8, .int ((nI i) + 1))]) rfl rfl ?_
            rw [show ((nI i) + 1) = nI (i + 1) from nI_add i 1]
            refine WX.s1 rfl rfl ?_
            rw [nI_clamp (by omega)] at e_A70n6
            have how : ownF u 64 o (2 ^ o - negU u (i + 1)) = i := by
              unfold ownF
              rw [if_neg (by omega), show 2 ^ o - 1 - (2 ^ o - negU u (i + 1)) = negU u i by omega]
              exact hiR_is hz _ (by omega)
            refine ih (i + 1) h70n6 A70n6 (by omega) FR_h70n6 M_h70n6 (FA_AL.ast e_A70n6 (by decide) (by omega)) (fun q hq => ?_)
            rw [e_A70n6, upA_same]
            by_cases z : q = 2 ^ o - negU u (i + 1)
            · rw [z, pk_us, if_pos (Nat.le_refl _), how]
            · rw [pk_un (by omega), hP q hq]
              by_cases y : 2 ^ o - negU u i ≤ q
              · rw [if_pos y, if_pos (by omega)]
              · rw [if_neg y, if_neg (by omega)]
      exact lp40 64 0 hL AL (by omega) FR_hL M_hL FA_AL (fun q hq => by rw [if_neg (show ¬ 2 ^ o - negU u 0 ≤ q by show ¬ 2 ^ o - 0 ≤ q; omega)]; exact hP0 q hq)
    | succ tt ih =>
      intro i hL AL hi FR_hL M_hL FA_AL hP
      refine WX.s1 rfl rfl ?_
      refine WX.s1 rfl rfl ?_
      refine WX.icmp rfl (fun c_13 => absurd c_13 (fun zz_ => absurd ((nI_leI (a := 2 ^ o) (b := i) (by omega) (by omega)).mp zz_) (Nat.not_le.mpr (by omega)))) (fun c_13 => ?_)
      clear c_13
      refine WX.s1 rfl rfl ?_
      refine WX.mget rfl hm M_hL rfl ?_
      refine WX.s1 rfl rfl ?_
      refine WX.s1 rfl rfl ?_
      refine WX.s1 (S' := [.int ((nI T) + (nI i)), .ref (m + 26)]) rfl rfl ?_
      rw [show ((nI T) + (nI i)) = nI (T + i) from nI_add T i]
      refine WX.s1 rfl rfl ?_
      refine WX.mast (c := 26) rfl hm M_hL (by decide) (by decide) (by decide) (by decide) (vp_in_nI (N := 2048) (by omega) (by decide)) (fun h26n7 A26n7 e_A26n7 M_h26n7 frh26n7 => ?_)
      try dsimp only at e_A26n7
      have FR_h26n7 := FR_hL.ztr frh26n7
      clear M_hL FR_hL frh26n7
      refine WX.s1 (L' := [(0, .ref m), (1, .ref (m + 30)), (2, .int (nI f)), (3, .int 64), (4, .int (nI o)), (5, .int (nI T)), (6, .int (nI (2 ^ o))), (7, .int ((nI i) + 1))]) rfl rfl ?_
      rw [show ((nI i) + 1) = nI (i + 1) from nI_add i 1]
      refine WX.s1 rfl rfl ?_
      rw [nI_clamp (by omega)] at e_A26n7
      refine ih (i + 1) h26n7 A26n7 (by omega) FR_h26n7 M_h26n7 (FA_AL.ast e_A26n7 (by decide) (by omega)) (fun q hq => ?_)
      rw [e_A26n7, upA_same]
      by_cases z : q = i
      · rw [z, pk_us]
      · rw [pk_un (by omega)]; exact hP q (by omega)
  exact lp9 (2 ^ o) 0 h AR (by omega) FR_h M_h FaT.rf (fun q hq => absurd hq (Nat.not_lt_zero q))
set_option maxRecDepth 20000 in
theorem m_lay9 {d n s : Nat} {h : Nat → aE} {m : Nat} {I : Nat → Int32} {AR : Nat → Nat → Int32} {LN : Nat → Int64} {u : Nat → Nat} {f o T : Nat} (hm : m + 43 < n) (M_h : MAt h m I AR LN) (hf : f + 64 ≤ 192) (ho5 : o = 0 ∨ 5 ≤ o) (ho : o ≤ 9) (hT : T + 2 ^ o ≤ 2048) (hU : ∀ s, s < 64 → AR 9 (f + s) = qI (u s)) (hS : mSum u 64 = 2 ^ o)  {Ψ : Option Value → aH → Prop} (kk : ∀ h' A', Fr h h' (inM m) → MAt h' m I A' LN → FaS AR A' (fun b => b = 26 ∨ b = 27 ∨ b = 28 ∨ b = 29) → PlA A' T o 64 u → FaT AR A' T o → Ψ none (n, s, h')) : WO (mM (d + 2)) 165 [.ref m, .ref (m + 9), .int (nI f), .int 64, .int (nI o), .int (nI T)] (n, s, h) Ψ := by
  refine WO.of (Nat.le_of_ble_eq_true rfl) ?_
  have FR_h : Fr h h (inM m) := Fr.rf
  have FI_I : Fi I I (fun f => f = 40) := Fi.rf
  have h2o : 2 ^ o ≤ 2 ^ 9 := Nat.pow_le_pow_right (by decide) ho
  have h2p : 0 < 2 ^ o := Nat.pow_pos (by decide)
  have hcn := cum_neg u 64
  have hlall := lowc_all ho5 ho (cumU u 64) (by omega)
  have hub : ∀ s, s < 64 → u s ≤ 2 ^ o + 1 := fun s hs => by
    have h1 := sumN_get (fun s => massU (u s)) hs
    have h2 : sumN (fun s => massU (u s)) 64 = 2 ^ o := hS
    have h3 : massU (u s) ≤ 2 ^ o := by rw [← h2]; exact h1
    unfold massU at h3
    by_cases z : u s = 0
    · omega
    · rw [if_neg z] at h3; omega
  show WX (lk tX12_lay) (mM (d + 1)) Ψ 0 [(0, .ref m), (1, .ref (m + 9)), (2, .int (nI f)), (3, .int 64), (4, .int (nI o)), (5, .int (nI T))] [] (n, s, h)
  refine WX.s1 rfl rfl ?_
  refine WX.s1 rfl rfl ?_
  refine WX.s1 (S' := [.int (1 <<< ((nI o) &&& 31))]) rfl rfl ?_
  rw [sh1 o (by omega)]
  refine WX.s1 (L' := [(0, .ref m), (1, .ref (m + 9)), (2, .int (nI f)), (3, .int 64), (4, .int (nI o)), (5, .int (nI T)), (6, .int (nI (2 ^ o)))]) rfl rfl ?_
  refine WX.s1 rfl rfl ?_
  refine WX.s1 (L' := [(0, .ref m), (1, .ref (m + 9)), (2, .int (nI f)), (3, .int 64), (4, .int (nI o)), (5, .int (nI T)), (6, .int (nI (2 ^ o))), (7, .int 0)]) rfl rfl ?_
  have lp9 : ∀ (tt i : Nat) (hL : Nat → aE) (AL : Nat → Nat → Int32), i + tt = 2 ^ o → Fr h hL (inM m) → MAt hL m I AL LN → FaT AR AL T o → (∀ q, q < i → AL 26 (T + q) = -1) → WX (lk tX12_lay) (mM (d + 1)) Ψ 9 [(0, .ref m), (1, .ref (m + 9)), (2, .int (nI f)), (3, .int 64), (4, .int (nI o)), (5, .int (nI T)), (6, .int (nI (2 ^ o))), (7, .int (nI i))] [] (n, s, hL) := by
    clear M_h FR_h
    intro tt
    induction tt with
    | zero =>
      intro i hL AL hi FR_hL M_hL FA_AL hP
      obtain rfl : i = 2 ^ o := by omega
      refine WX.s1 rfl rfl ?_
      refine WX.s1 rfl rfl ?_
      refine WX.icmp rfl (fun c_13 => ?_) (fun c_13 => absurd ((nI_leI (a := 2 ^ o) (b := 2 ^ o) (by omega) (by omega)).mpr (by omega)) c_13)
      clear c_13
      refine WX.s1 rfl rfl ?_
      refine WX.s1 (L' := [(0, .ref m), (1, .ref (m + 9)), (2, .int (nI f)), (3, .int 64), (4, .int (nI o)), (5, .int (nI T)), (6, .int (nI (2 ^ o))), (7, .int (nI (2 ^ o)))]) rfl rfl ?_
      refine WX.s1 rfl rfl ?_
      refine WX.s1 (L' := [(0, .ref m), (1, .ref (m + 9)), (2, .int (nI f)), (3, .int 64), (4, .int (nI o)), (5, .int (nI T)), (6, .int (nI (2 ^ o))), (7, .int (nI (2 ^ o))), (8, .int 0)]) rfl rfl ?_
      have hP0 := hP
      clear hP
      have lp40 : ∀ (tt i : Nat) (hL : Nat → aE) (AL : Nat → Nat → Int32), i + tt = 64 → Fr h hL (inM m) → MAt hL m I AL LN → FaT AR AL T o → (∀ q, q < 2 ^ o → AL 26 (T + q) = if 2 ^ o - negU u i ≤ q then nI (ownF u 64 o q) else -1) → WX (lk tX12_lay) (mM (d + 1)) Ψ 40 [(0, .ref m), (1, .ref (m + 9)), (2, .int (nI f)), (3, .int 64), (4, .int (nI o)), (5, .int (nI T)), (6, .int (nI (2 ^ o))), (7, .int (nI (2 ^ o - negU u i))), (8, .int (nI i))] [] (n, s, hL) := by
        clear M_hL FR_hL FA_AL hP0
        intro tt
        induction tt with
        | zero =>
          intro i hL AL hi FR_hL M_hL FA_AL hP
          obtain rfl : i = 64 := by omega
          refine WX.s1 rfl rfl ?_
          refine WX.s1 rfl rfl ?_
          refine WX.icmp rfl (fun c_43 => ?_) (fun c_43 => absurd ((nI_leI (a := 64) (b := 64) (by omega) (by omega)).mpr (by omega)) c_43)
          clear c_43
          refine WX.s1 rfl rfl ?_
          refine WX.s1 (L' := [(0, .ref m), (1, .ref (m + 9)), (2, .int (nI f)), (3, .int 64), (4, .int (nI o)), (5, .int (nI T)), (6, .int (nI (2 ^ o))), (7, .int (nI (2 ^ o - negU u 64))), (8, .int 0)]) rfl rfl ?_
          refine WX.s1 rfl rfl ?_
          refine WX.s1 (L' := [(0, .ref m), (1, .ref (m + 9)), (2, .int (nI f)), (3, .int 64), (4, .int (nI o)), (5, .int (nI T)), (6, .int (nI (2 ^ o))), (7, .int (nI (2 ^ o - negU u 64))), (8, .int 0), (9, .int 0)]) rfl rfl ?_
          refine WX.keep (y := 165) [0, 1, 2, 3, 4, 5, 6, 8, 9] (show ([0, 1, 2, 3, 4, 5, 6, 7, 8, 9] : List Nat).Nodup by decide) rfl ?_
          have lp83 : ∀ (tt i x Jc : Nat) (hL : Nat → aE) (AL : Nat → Nat → Int32), i + tt = 64 → x ≤ Jc → Jc ≤ x + 1 → Jc ≤ 2 ^ o → x < 2 ^ o → lowc o (cumU u 64) Jc = cumU u i → Fr h hL (inM m) → MAt hL m I AL LN → FaT AR AL T o → PsA AL T o 64 u Jc → (∀ s, s < i → AL 29 s = nI (massU (u s))) → WX (lk tX12_lay) (mM (d + 1)) Ψ 83 [(0, .ref m), (1, .ref (m + 9)), (2, .int (nI f)), (3, .int 64), (4, .int (nI o)), (5, .int (nI T)), (6, .int (nI (2 ^ o))), (8, .int (nI (wk o x))), (9, .int (nI i))] [] (n, s, hL) := by
            clear M_hL FR_hL FA_AL hP
            intro tt
            induction tt with
            | zero =>
              intro i x Jc hL AL hi hxJ hJx hJo hxo hlc FR_hL M_hL FA_AL hP hN
              obtain rfl : i = 64 := by omega
              refine WX.s1 rfl rfl ?_
              refine WX.s1 rfl rfl ?_
              refine WX.icmp rfl (fun c_86 => ?_) (fun c_86 => absurd ((nI_leI (a := 64) (b := 64) (by omega) (by omega)).mpr (by omega)) c_86)
              clear c_86
              refine WX.s1 rfl rfl ?_
              refine WX.s1 (L' := [(0, .ref m), (1, .ref (m + 9)), (2, .int (nI f)), (3, .int 64), (4, .int (nI o)), (5, .int (nI T)), (6, .int (nI (2 ^ o))), (8, .int (nI (wk o x))), (9, .int 0)]) rfl rfl ?_
              refine WX.keep (y := 165) [0, 1, 2, 3, 4, 5, 6, 9] (show ([0, 1, 2, 3, 4, 5, 6, 8, 9] : List Nat).Nodup by decide) rfl ?_
              have hJ : Jc = 2 ^ o ∨ lowc o (cumU u 64) Jc = lowc o (cumU u 64) (2 ^ o) := Or.inr (by omega)
              have hQ : ∀ q, q < 2 ^ o → AL 26 (T + q) = nI (ownF u 64 o q) := by
                intro q hq
                rw [hP q hq]
                by_cases c1 : (cumU u 64) ≤ q
                · rw [if_pos (Or.inl c1)]
                · have hqw := wk_wki ho5 ho hq
                  have hql := wki_lt o q
                  have c2 : wki o q < Jc := by apply Classical.byContradiction; intro z; exact lowc_eq (show lowc o (cumU u 64) Jc = lowc o (cumU u 64) (2 ^ o) by omega) (by omega) hql (by rw [hqw]; omega)
                  rw [if_pos (Or.inr c2)]
              have hN0 := hN
              clear hN hP hJ
              have lp182 : ∀ (tt i : Nat) (hL : Nat → aE) (AL : Nat → Nat → Int32), i + tt = 2 ^ o → Fr h hL (inM m) → MAt hL m I AL LN → FaT AR AL T o → (∀ q, q < 2 ^ o → AL 26 (T + q) = nI (ownF u 64 o q)) → (∀ s, s < 64 → AL 29 s = nI (massU (u s) + rkF u 64 o s i)) → (∀ q, q < i → ∃ g, 2 ^ g ≤ (massU (u (ownF u 64 o q)) + rkF u 64 o (ownF u 64 o q) q) ∧ (massU (u (ownF u 64 o q)) + rkF u 64 o (ownF u 64 o q) q) < 2 ^ (g + 1) ∧ AL 27 (T + q) = nI (o - g) ∧ AL 28 (T + q) = nI ((massU (u (ownF u 64 o q)) + rkF u 64 o (ownF u 64 o q) q) * 2 ^ (o - g) - 2 ^ o)) → WX (lk tX12_lay) (mM (d + 1)) Ψ 182 [(0, .ref m), (1, .ref (m + 9)), (2, .int (nI f)), (3, .int 64), (4, .int (nI o)), (5, .int (nI T)), (6, .int (nI (2 ^ o))), (9, .int (nI i))] [] (n, s, hL) := by
                clear FR_hL M_hL FA_AL hQ hN0
                intro tt
                induction tt with
                | zero =>
                  intro i hL AL hi FR_hL M_hL FA_AL hQ hN hR
                  refine WX.s1 rfl rfl ?_
                  refine WX.s1 rfl rfl ?_
                  refine WX.icmp rfl (fun c_186 => ?_) (fun c_186 => absurd ((nI_leI (a := 2 ^ o) (b := i) (by omega) (by omega)).mpr (by omega)) c_186)
                  clear c_186
                  exact WX.ret0 rfl (kk hL AL FR_hL M_hL FA_AL.1 (fun q hq => ⟨hQ q hq, hR q (by omega)⟩) FA_AL)
                | succ tt ih =>
                  intro i hL AL hi FR_hL M_hL FA_AL hQ hN hR
                  have hol := own_lt (u := u) (N := 64) ho5 ho hS (show i < 2 ^ o by omega)
                  have hrk := rk_own (u := u) (N := 64) ho5 ho hS (show i < 2 ^ o by omega)
                  have hmb := hub (ownF u 64 o i) hol
                  have hmm : massU (u (ownF u 64 o i)) ≤ 2 ^ o := by have h1 := sumN_get (fun s => massU (u s)) hol; have h2 : sumN (fun s => massU (u s)) 64 = 2 ^ o := hS; rw [← h2]; exact h1
                  have hq := hQ i (by omega)
                  have hn := hN (ownF u 64 o i) hol
                  generalize ex : massU (u (ownF u 64 o i)) + rkF u 64 o (ownF u 64 o i) i = xx at hn
                  refine WX.s1 rfl rfl ?_
                  refine WX.s1 rfl rfl ?_
                  refine WX.icmp rfl (fun c_186 => absurd c_186 (fun zz_ => absurd ((nI_leI (a := 2 ^ o) (b := i) (by omega) (by omega)).mp zz_) (Nat.not_le.mpr (by omega)))) (fun c_186 => ?_)
                  clear c_186
                  refine WX.s1 rfl rfl ?_
                  refine WX.mget rfl hm M_hL rfl ?_
                  refine WX.s1 rfl rfl ?_
                  refine WX.mget rfl hm M_hL rfl ?_
                  refine WX.s1 rfl rfl ?_
                  refine WX.s1 rfl rfl ?_
                  refine WX.s1 (S' := [.int ((nI T) + (nI i)), .ref (m + 26), .ref (m + 29)]) rfl rfl ?_
                  rw [show ((nI T) + (nI i)) = nI (T + i) from nI_add T i]
                  refine WX.mald (c := 26) rfl hm M_hL (by decide) (by decide) (by decide) (by decide) (vp_in_nI (N := 2048) (by omega) (by decide)) ?_
                  rw [nI_clamp (by omega), hq]
                  refine WX.mald (c := 29) rfl hm M_hL (by decide) (by decide) (by decide) (by decide) (vp_in_nI (N := 64) (by omega) (by decide)) ?_
                  rw [nI_clamp (by omega), hn]
                  refine WX.s1 (L' := [(0, .ref m), (1, .ref (m + 9)), (2, .int (nI f)), (3, .int 64), (4, .int (nI o)), (5, .int (nI T)), (6, .int (nI (2 ^ o))), (9, .int (nI i)), (10, .int (nI xx))]) rfl rfl ?_
                  refine WX.s1 rfl rfl ?_
                  refine WX.mget rfl hm M_hL rfl ?_
                  refine WX.s1 rfl rfl ?_
                  refine WX.mget rfl hm M_hL rfl ?_
                  refine WX.s1 rfl rfl ?_
                  refine WX.s1 rfl rfl ?_
                  refine WX.s1 (S' := [.int ((nI T) + (nI i)), .ref (m + 26), .ref (m + 29)]) rfl rfl ?_
                  rw [show ((nI T) + (nI i)) = nI (T + i) from nI_add T i]
                  refine WX.mald (c := 26) rfl hm M_hL (by decide) (by decide) (by decide) (by decide) (vp_in_nI (N := 2048) (by omega) (by decide)) ?_
                  rw [nI_clamp (by omega), hq]
                  refine WX.s1 rfl rfl ?_
                  refine WX.s1 rfl rfl ?_
                  refine WX.s1 (S' := [.int ((nI xx) + 1), .int (nI (ownF u 64 o i)), .ref (m + 29)]) rfl rfl ?_
                  rw [show ((nI xx) + 1) = nI (xx + 1) from nI_add xx 1]
                  refine WX.mast (c := 29) rfl hm M_hL (by decide) (by decide) (by decide) (by decide) (vp_in_nI (N := 64) (by omega) (by decide)) (fun h224n1 A224n1 e_A224n1 M_h224n1 frh224n1 => ?_)
                  try dsimp only at e_A224n1
                  have FR_h224n1 := FR_hL.ztr frh224n1
                  clear M_hL FR_hL frh224n1
                  refine WX.s1 rfl rfl ?_
                  refine WX.mget rfl hm M_h224n1 rfl ?_
                  refine WX.s1 rfl rfl ?_
                  refine WX.s1 rfl rfl ?_
                  refine WX.s1 (S' := [.int ((nI T) + (nI i)), .ref (m + 27)]) rfl rfl ?_
                  rw [show ((nI T) + (nI i)) = nI (T + i) from nI_add T i]
                  refine WX.s1 rfl rfl ?_
                  refine WX.s1 rfl rfl ?_
                  refine WX.callC (vs := [.int (nI xx)]) rfl rfl rfl (Nat.le_of_ble_eq_true rfl) rfl ?_
                  refine m_log (by omega) (by omega) (fun gg g1 g2 => ?_)
                  have hgo : gg ≤ o := by apply Classical.byContradiction; intro z; have := Nat.pow_le_pow_right (show 0 < 2 by decide) (show o + 1 ≤ gg by omega); rw [Nat.pow_succ] at this; omega
                  have hxo : 2 ^ o ≤ xx * 2 ^ (o - gg) := by have := Nat.mul_le_mul_right (2 ^ (o - gg)) g1; rw [← Nat.pow_add, show gg + (o - gg) = o by omega] at this; exact this
                  have hxb : xx * 2 ^ (o - gg) ≤ 2 ^ 10 * 2 ^ 9 := Nat.mul_le_mul (by omega) (Nat.pow_le_pow_right (by decide) (by omega))
                  show WX _ _ _ 241 [(0, .ref m), (1, .ref (m + 9)), (2, .int (nI f)), (3, .int 64), (4, .int (nI o)), (5, .int (nI T)), (6, .int (nI (2 ^ o))), (9, .int (nI i)), (10, .int (nI xx))] [.int (nI gg), .int (nI o), .int (nI (T + i)), .ref (m + 27)] (n, s, h224n1)
                  refine WX.s1 (S' := [.int ((nI o) - (nI gg)), .int (nI (T + i)), .ref (m + 27)]) rfl rfl ?_
                  rw [nI_subN hgo]
                  refine WX.mast (c := 27) rfl hm M_h224n1 (by decide) (by decide) (by decide) (by decide) (vp_in_nI (N := 2048) (by omega) (by decide)) (fun h242n2 A242n2 e_A242n2 M_h242n2 frh242n2 => ?_)
                  try dsimp only at e_A242n2
                  have FR_h242n2 := FR_h224n1.ztr frh242n2
                  clear M_h224n1 FR_h224n1 frh242n2
                  refine WX.s1 rfl rfl ?_
                  refine WX.mget rfl hm M_h242n2 rfl ?_
                  refine WX.s1 rfl rfl ?_
                  refine WX.s1 rfl rfl ?_
                  refine WX.s1 (S' := [.int ((nI T) + (nI i)), .ref (m + 28)]) rfl rfl ?_
                  rw [show ((nI T) + (nI i)) = nI (T + i) from nI_add T i]
                  refine WX.s1 rfl rfl ?_
                  refine WX.s1 rfl rfl ?_
                  refine WX.s1 rfl rfl ?_
                  refine WX.callC (vs := [.int (nI xx)]) rfl rfl rfl (Nat.le_of_ble_eq_true rfl) rfl ?_
                  refine m_log (by omega) (by omega) (fun g3 g4 g5 => ?_)
                  obtain rfl : g3 = gg := log_un g4 g5 g1 g2
                  show WX _ _ _ 261 [(0, .ref m), (1, .ref (m + 9)), (2, .int (nI f)), (3, .int 64), (4, .int (nI o)), (5, .int (nI T)), (6, .int (nI (2 ^ o))), (9, .int (nI i)), (10, .int (nI xx))] [.int (nI g3), .int (nI o), .int (nI xx), .int (nI (T + i)), .ref (m + 28)] (n, s, h242n2)
                  refine WX.s1 (S' := [.int ((nI o) - (nI g3)), .int (nI xx), .int (nI (T + i)), .ref (m + 28)]) rfl rfl ?_
                  rw [nI_subN hgo]
                  refine WX.s1 (S' := [.int ((nI xx) <<< ((nI (o - g3)) &&& 31)), .int (nI (T + i)), .ref (m + 28)]) rfl rfl ?_
                  rw [pk_shlN _ (o - g3) (sm31 _ (by omega)) (by omega)]
                  refine WX.s1 rfl rfl ?_
                  refine WX.s1 (S' := [.int ((nI (xx * 2 ^ (o - g3))) - (nI (2 ^ o))), .int (nI (T + i)), .ref (m + 28)]) rfl rfl ?_
                  rw [nI_subN hxo]
                  refine WX.mast (c := 28) rfl hm M_h242n2 (by decide) (by decide) (by decide) (by decide) (vp_in_nI (N := 2048) (by omega) (by decide)) (fun h266n3 A266n3 e_A266n3 M_h266n3 frh266n3 => ?_)
                  try dsimp only at e_A266n3
                  have FR_h266n3 := FR_h242n2.ztr frh266n3
                  clear M_h242n2 FR_h242n2 frh266n3
                  refine WX.s1 (L' := [(0, .ref m), (1, .ref (m + 9)), (2, .int (nI f)), (3, .int 64), (4, .int (nI o)), (5, .int (nI T)), (6, .int (nI (2 ^ o))), (9, .int ((nI i) + 1)), (10, .int (nI xx))]) rfl rfl ?_
                  rw [show ((nI i) + 1) = nI (i + 1) from nI_add i 1]
                  refine WX.s1 rfl rfl ?_
                  refine WX.keep (y := 165) [0, 1, 2, 3, 4, 5, 6, 9] (show ([0, 1, 2, 3, 4, 5, 6, 9, 10] : List Nat).Nodup by decide) rfl ?_
                  rw [nI_clamp (by omega)] at e_A224n1 e_A242n2 e_A266n3
                  refine ih (i + 1) h266n3 A266n3 (by omega) FR_h266n3 M_h266n3 (((FA_AL.ast9 e_A224n1).ast e_A242n2 (by decide) (by omega)).ast e_A266n3 (by decide) (by omega)) (fun q hq2 => by rw [e_A266n3, upA_ne (by decide), e_A242n2, upA_ne (by decide), e_A224n1, upA_ne (by decide)]; exact hQ q hq2) (fun s hs => ?_) (fun q hq2 => ?_)
                  · rw [e_A266n3, upA_ne (by decide), e_A242n2, upA_ne (by decide), e_A224n1, upA_same, rk_succ]
                    by_cases z : s = ownF u 64 o i
                    · rw [z, pk_us, show isE (ownF u 64 o i) (ownF u 64 o i) = 1 from if_pos rfl, ← Nat.add_assoc, ex]
                    · rw [pk_un z, show isE (ownF u 64 o i) s = 0 from if_neg (fun y => z y.symm), Nat.add_zero]; exact hN s hs
                  · by_cases z : q = i
                    · subst z
                      rw [ex]
                      exact ⟨g3, g4, g5, by rw [e_A266n3, upA_ne (by decide), e_A242n2, upA_same, pk_us], by rw [e_A266n3, upA_same, pk_us]⟩
                    · obtain ⟨g, y1, y2, y3, y4⟩ := hR q (by omega)
                      exact ⟨g, y1, y2, by rw [e_A266n3, upA_ne (by decide), e_A242n2, upA_same, pk_un (by omega), e_A224n1, upA_ne (by decide)]; exact y3, by rw [e_A266n3, upA_same, pk_un (by omega), e_A242n2, upA_ne (by decide), e_A224n1, upA_ne (by decide)]; exact y4⟩
              exact lp182 (2 ^ o) 0 hL AL (by omega) FR_hL M_hL FA_AL hQ (fun s hs => hN0 s hs) (fun q hq => absurd hq (Nat.not_lt_zero q))
            | succ tt ih =>
              intro i x Jc hL AL hi hxJ hJx hJo hxo hlc FR_hL M_hL FA_AL hP hN
              have hui := hub i (by omega)
              have hcs : cumU u (i + 1) = cumU u i + (u i - 1) := rfl
              have hcl : cumU u (i + 1) ≤ cumU u 64 := sumN_mono _ (by omega)
              refine WX.s1 rfl rfl ?_
              refine WX.s1 rfl rfl ?_
              refine WX.icmp rfl (fun c_86 => absurd c_86 (fun zz_ => absurd ((nI_leI (a := 64) (b := i) (by omega) (by omega)).mp zz_) (Nat.not_le.mpr (by omega)))) (fun c_86 => ?_)
              clear c_86
              refine WX.s1 rfl rfl ?_
              refine WX.s1 (L' := [(0, .ref m), (1, .ref (m + 9)), (2, .int (nI f)), (3, .int 64), (4, .int (nI o)), (5, .int (nI T)), (6, .int (nI (2 ^ o))), (8, .int (nI (wk o x))), (9, .int (nI i)), (10, .int 0)]) rfl rfl ?_
              have lp92 : ∀ (t2 k x Jc : Nat) (hL : Nat → aE) (AL : Nat → Nat → Int32), k + t2 = u i - 1 → x ≤ Jc → Jc ≤ x + 1 → Jc ≤ 2 ^ o → x < 2 ^ o → lowc o (cumU u 64) Jc = cumU u i + k → Fr h hL (inM m) → MAt hL m I AL LN → FaT AR AL T o → PsA AL T o 64 u Jc → (∀ s, s < i → AL 29 s = nI (massU (u s))) → WX (lk tX12_lay) (mM (d + 1)) Ψ 92 [(0, .ref m), (1, .ref (m + 9)), (2, .int (nI f)), (3, .int 64), (4, .int (nI o)), (5, .int (nI T)), (6, .int (nI (2 ^ o))), (8, .int (nI (wk o x))), (9, .int (nI i)), (10, .int (nI k))] [] (n, s, hL) := by
                clear FR_hL M_hL FA_AL hP hN hlc hxJ hJx hJo hxo
                intro t2
                induction t2 with
                | zero =>
                  intro k x Jc hL AL hk hxJ hJx hJo hxo hlc FR_hL M_hL FA_AL hP hN
                  refine WX.s1 rfl rfl ?_
                  refine WX.s1 rfl rfl ?_
                  refine WX.s1 rfl rfl ?_
                  refine WX.s1 rfl rfl ?_
                  refine WX.s1 (S' := [.int ((nI f) + (nI i)), .ref (m + 9), .int (nI k)]) rfl rfl ?_
                  rw [show ((nI f) + (nI i)) = nI (f + i) from nI_add f i]
                  refine WX.mald (c := 9) rfl hm M_hL (by decide) (by decide) (by decide) (by decide) (vp_in_nI (N := 192) (by omega) (by decide)) ?_
                  rw [nI_clamp (by omega), FA_AL.1 9 (by decide), hU i (by omega)]
                  refine WX.icmp rfl (fun c_100 => ?_) (fun c_100 => absurd ((qI_leN (by omega) (by omega)).mpr (by omega)) c_100)
                  refine WX.s1 rfl rfl ?_
                  refine WX.mget rfl hm M_hL rfl ?_
                  refine WX.s1 rfl rfl ?_
                  refine WX.s1 rfl rfl ?_
                  refine WX.s1 rfl rfl ?_
                  refine WX.s1 rfl rfl ?_
                  refine WX.s1 (S' := [.int ((nI f) + (nI i)), .ref (m + 9), .int (nI i), .ref (m + 29)]) rfl rfl ?_
                  rw [show ((nI f) + (nI i)) = nI (f + i) from nI_add f i]
                  refine WX.mald (c := 9) rfl hm M_hL (by decide) (by decide) (by decide) (by decide) (vp_in_nI (N := 192) (by omega) (by decide)) ?_
                  rw [nI_clamp (by omega), FA_AL.1 9 (by decide), hU i (by omega)]
                  refine WX.callC (vs := [.int (qI (u i))]) rfl rfl rfl (Nat.le_of_ble_eq_true rfl) rfl ?_
                  refine m_mass (by omega) ?_
                  show WX _ _ _ 172 [(0, .ref m), (1, .ref (m + 9)), (2, .int (nI f)), (3, .int 64), (4, .int (nI o)), (5, .int (nI T)), (6, .int (nI (2 ^ o))), (8, .int (nI (wk o x))), (9, .int (nI i)), (10, .int (nI k))] [.int (nI (massU (u i))), .int (nI i), .ref (m + 29)] (n, s, hL)
                  refine WX.mast (c := 29) rfl hm M_hL (by decide) (by decide) (by decide) (by decide) (vp_in_nI (N := 64) (by omega) (by decide)) (fun h172n4 A172n4 e_A172n4 M_h172n4 frh172n4 => ?_)
                  try dsimp only at e_A172n4
                  have FR_h172n4 := FR_hL.ztr frh172n4
                  clear M_hL FR_hL frh172n4
                  refine WX.s1 (L' := [(0, .ref m), (1, .ref (m + 9)), (2, .int (nI f)), (3, .int 64), (4, .int (nI o)), (5, .int (nI T)), (6, .int (nI (2 ^ o))), (8, .int (nI (wk o x))), (9, .int ((nI i) + 1)), (10, .int (nI k))]) rfl rfl ?_
                  rw [show ((nI i) + 1) = nI (i + 1) from nI_add i 1]
                  refine WX.s1 rfl rfl ?_
                  refine WX.keep (y := 165) [0, 1, 2, 3, 4, 5, 6, 8, 9] (show ([0, 1, 2, 3, 4, 5, 6, 8, 9, 10] : List Nat).Nodup by decide) rfl ?_
                  rw [nI_clamp (by omega)] at e_A172n4
                  refine ih (i + 1) x Jc h172n4 A172n4 (by omega) hxJ hJx hJo hxo (by omega) FR_h172n4 M_h172n4 (FA_AL.ast9 e_A172n4) (fun q hq => by rw [e_A172n4, upA_ne (by decide)]; exact hP q hq) (fun s hs => ?_)
                  rw [e_A172n4, upA_same]
                  by_cases z : s = i
                  · rw [z, pk_us]
                  · rw [pk_un z]; exact hN s (by omega)
                | succ t2 ih2 =>
                  intro k x Jc hL AL hk hxJ hJx hJo hxo hlc FR_hL M_hL FA_AL hP hN
                  refine WX.s1 rfl rfl ?_
                  refine WX.s1 rfl rfl ?_
                  refine WX.s1 rfl rfl ?_
                  refine WX.s1 rfl rfl ?_
                  refine WX.s1 (S' := [.int ((nI f) + (nI i)), .ref (m + 9), .int (nI k)]) rfl rfl ?_
                  rw [show ((nI f) + (nI i)) = nI (f + i) from nI_add f i]
                  refine WX.mald (c := 9) rfl hm M_hL (by decide) (by decide) (by decide) (by decide) (vp_in_nI (N := 192) (by omega) (by decide)) ?_
                  rw [nI_clamp (by omega), FA_AL.1 9 (by decide), hU i (by omega)]
                  refine WX.icmp rfl (fun c_100 => absurd c_100 (fun z => absurd ((qI_leN (by omega) (by omega)).mp z) (by omega))) (fun c_100 => ?_)
                  have lp103 : ∀ (t3 y : Nat), y + t3 = 2 ^ o → Jc ≤ y + 1 → lowc o (cumU u 64) (max Jc y) = cumU u i + k → WX (lk tX12_lay) (mM (d + 1)) Ψ 103 [(0, .ref m), (1, .ref (m + 9)), (2, .int (nI f)), (3, .int 64), (4, .int (nI o)), (5, .int (nI T)), (6, .int (nI (2 ^ o))), (8, .int (nI (wk o y))), (9, .int (nI i)), (10, .int (nI k))] [] (n, s, hL) := by
                    intro t3
                    induction t3 with
                    | zero =>
                      intro y hy hJy hly
                      exfalso
                      rw [show max Jc y = 2 ^ o by omega] at hly
                      omega
                    | succ t3 ih3 =>
                      intro y hy hJy hly
                      have hwy := wk_lt o y
                      have hPy := hP (wk o y) hwy
                      rw [wki_wk ho5 ho (by omega)] at hPy
                      by_cases hocc : (cumU u 64) ≤ wk o y ∨ y < Jc
                      · rw [if_pos hocc] at hPy
                        have hol := own_lt (u := u) (N := 64) ho5 ho hS hwy
                        refine WX.s1 rfl rfl ?_
                        refine WX.mget rfl hm M_hL rfl ?_
                        refine WX.s1 rfl rfl ?_
                        refine WX.s1 rfl rfl ?_
                        refine WX.s1 (S' := [.int ((nI T) + (nI (wk o y))), .ref (m + 26)]) rfl rfl ?_
                        rw [show ((nI T) + (nI (wk o y))) = nI (T + wk o y) from nI_add T (wk o y)]
                        refine WX.mald (c := 26) rfl hm M_hL (by decide) (by decide) (by decide) (by decide) (vp_in_nI (N := 2048) (by omega) (by decide)) ?_
                        rw [nI_clamp (by omega), hPy]
                        refine WX.if_ rfl (fun c_113 => absurd c_113 (fun zz_ => absurd ((nI_ltI (a := ownF u 64 o (wk o y)) (b := 0) (by omega) (by omega)).mp zz_) (Nat.not_lt.mpr (by omega)))) (fun c_113 => ?_)
                        clear c_113
                        refine WX.s1 rfl rfl ?_
                        refine WX.s1 rfl rfl ?_
                        refine WX.s1 rfl rfl ?_
                        refine WX.div rfl (by decide) ?_
                        rw [show nI (2 ^ o) / 2 = nI (2 ^ o / 2) from pk_div (by omega) (by decide) (by decide)]
                        refine WX.s1 (S' := [.int ((nI (wk o y)) + (nI (2 ^ o / 2)))]) rfl rfl ?_
                        rw [show ((nI (wk o y)) + (nI (2 ^ o / 2))) = nI (wk o y + 2 ^ o / 2) from nI_add (wk o y) (2 ^ o / 2)]
                        refine WX.s1 rfl rfl ?_
                        refine WX.s1 rfl rfl ?_
                        refine WX.div rfl (by decide) ?_
                        rw [show nI (2 ^ o) / 8 = nI (2 ^ o / 8) from pk_div (by omega) (by decide) (by decide)]
                        refine WX.s1 (S' := [.int ((nI (wk o y + 2 ^ o / 2)) + (nI (2 ^ o / 8)))]) rfl rfl ?_
                        rw [show ((nI (wk o y + 2 ^ o / 2)) + (nI (2 ^ o / 8))) = nI (wk o y + 2 ^ o / 2 + 2 ^ o / 8) from nI_add (wk o y + 2 ^ o / 2) (2 ^ o / 8)]
                        refine WX.s1 rfl rfl ?_
                        refine WX.s1 (S' := [.int ((nI (wk o y + 2 ^ o / 2 + 2 ^ o / 8)) + 3)]) rfl rfl ?_
                        rw [show ((nI (wk o y + 2 ^ o / 2 + 2 ^ o / 8)) + 3) = nI (wk o y + 2 ^ o / 2 + 2 ^ o / 8 + 3) from nI_add (wk o y + 2 ^ o / 2 + 2 ^ o / 8) 3]
                        refine WX.s1 rfl rfl ?_
                        refine WX.div rfl (nI_ne0 h2p (by omega)) ?_
                        rw [pk_rem (by omega) h2p (by omega), show (wk o y + 2 ^ o / 2 + 2 ^ o / 8 + 3) % 2 ^ o = wk o (y + 1) by rw [← wk_step]; unfold stp; congr 1; omega]
                        refine WX.s1 (L' := [(0, .ref m), (1, .ref (m + 9)), (2, .int (nI f)), (3, .int 64), (4, .int (nI o)), (5, .int (nI T)), (6, .int (nI (2 ^ o))), (8, .int (nI (wk o (y + 1)))), (9, .int (nI i)), (10, .int (nI k))]) rfl rfl ?_
                        refine WX.s1 rfl rfl ?_
                        refine ih3 (y + 1) (by omega) (by omega) ?_
                        rw [← hly]
                        rcases Nat.lt_or_ge y Jc with z | z
                        · rw [show max Jc (y + 1) = max Jc y by omega]
                        · rw [show max Jc (y + 1) = y + 1 by omega, show max Jc y = y by omega]
                          have e : lowc o (cumU u 64) (y + 1) = lowc o (cumU u 64) y + (if wk o y < (cumU u 64) then 1 else 0) := rfl
                          rw [e, if_neg (by omega)]
                          rfl
                      · rw [if_neg hocc] at hPy
                        have hfree : wk o y < (cumU u 64) ∧ Jc ≤ y := by omega
                        rw [show max Jc y = y by omega] at hly
                        have hown : ownF u 64 o (wk o y) = i := by
                          unfold ownF
                          rw [if_pos hfree.1, wki_wk ho5 ho (by omega)]
                          exact lsR_is (by omega) (by omega) _ (by omega)
                        refine WX.s1 rfl rfl ?_
                        refine WX.mget rfl hm M_hL rfl ?_
                        refine WX.s1 rfl rfl ?_
                        refine WX.s1 rfl rfl ?_
                        refine WX.s1 (S' := [.int ((nI T) + (nI (wk o y))), .ref (m + 26)]) rfl rfl ?_
                        rw [show ((nI T) + (nI (wk o y))) = nI (T + wk o y) from nI_add T (wk o y)]
                        refine WX.mald (c := 26) rfl hm M_hL (by decide) (by decide) (by decide) (by decide) (vp_in_nI (N := 2048) (by omega) (by decide)) ?_
                        rw [nI_clamp (by omega), hPy]
                        refine WX.if_ rfl (fun c_113 => ?_) (fun c_113 => absurd (m1lt0) c_113)
                        refine WX.s1 rfl rfl ?_
                        refine WX.mget rfl hm M_hL rfl ?_
                        refine WX.s1 rfl rfl ?_
                        refine WX.s1 rfl rfl ?_
                        refine WX.s1 (S' := [.int ((nI T) + (nI (wk o y))), .ref (m + 26)]) rfl rfl ?_
                        rw [show ((nI T) + (nI (wk o y))) = nI (T + wk o y) from nI_add T (wk o y)]
                        refine WX.s1 rfl rfl ?_
                        refine WX.mast (c := 26) rfl hm M_hL (by decide) (by decide) (by decide) (by decide) (vp_in_nI (N := 2048) (by omega) (by decide)) (fun h150n5 A150n5 e_A150n5 M_h150n5 frh150n5 => ?_)
                        try dsimp only at e_A150n5
                        have FR_h150n5 := FR_hL.ztr frh150n5
                        clear M_hL FR_hL frh150n5
                        refine WX.s1 (L' := [(0, .ref m), (1, .ref (m + 9)), (2, .int (nI f)), (3, .int 64), (4, .int (nI o)), (5, .int (nI T)), (6, .int (nI (2 ^ o))), (8, .int (nI (wk o y))), (9, .int (nI i)), (10, .int ((nI k) + 1))]) rfl rfl ?_
                        rw [show ((nI k) + 1) = nI (k + 1) from nI_add k 1]
                        refine WX.s1 rfl rfl ?_
                        rw [nI_clamp (by omega)] at e_A150n5
                        have els : lowc o (cumU u 64) (y + 1) = lowc o (cumU u 64) y + (if wk o y < (cumU u 64) then 1 else 0) := rfl
                        rw [if_pos hfree.1] at els
                        refine ih2 (k + 1) y (y + 1) h150n5 A150n5 (by omega) (by omega) (by omega) (by omega) (by omega) (by omega) FR_h150n5 M_h150n5 (FA_AL.ast e_A150n5 (by decide) hwy) (fun q hq => ?_) (fun s hs => by rw [e_A150n5, upA_ne (by decide)]; exact hN s hs)
                        rw [e_A150n5, upA_same]
                        by_cases z : q = wk o y
                        · rw [z, pk_us, wki_wk ho5 ho (by omega), if_pos (Or.inr (by omega)), hown]
                        · rw [pk_un (by omega), hP q hq]
                          have hqw := wk_wki ho5 ho hq
                          by_cases c1 : (cumU u 64) ≤ q
                          · rw [if_pos (Or.inl c1), if_pos (Or.inl c1)]
                          · by_cases c2 : wki o q < Jc
                            · rw [if_pos (Or.inr c2), if_pos (Or.inr (by omega))]
                            · have hny : wki o q ≠ y := fun e => z (by rw [← hqw, e])
                              have hno : ¬ wki o q < y := fun e => lowc_eq (hlc.trans hly.symm) (by omega) e (by rw [hqw]; omega)
                              rw [if_neg (by omega), if_neg (by omega)]
                  exact lp103 (2 ^ o - x) x (by omega) hJx (by rw [show max Jc x = Jc by omega]; exact hlc)
              exact lp92 (u i - 1) 0 x Jc hL AL (by omega) hxJ hJx hJo hxo hlc FR_hL M_hL FA_AL hP hN
          have hw0 : wk o 0 = 0 := by unfold wk; rw [Nat.zero_mul]; exact Nat.zero_mod _
          have h9 := lp83 64 0 0 0 hL AL (by omega) (Nat.le_refl _) (by omega) (Nat.zero_le _) h2p rfl FR_hL M_hL FA_AL (fun q hq => ?_) (fun s hs => absurd hs (Nat.not_lt_zero s))
          · rw [hw0] at h9; exact h9
          · rw [hP q hq]
            by_cases c1 : (cumU u 64) ≤ q
            · rw [if_pos (by omega), if_pos (Or.inl c1)]
            · rw [if_neg (by omega), if_neg (by omega)]
        | succ tt ih =>
          intro i hL AL hi FR_hL M_hL FA_AL hP
          have hui := hub i (by omega)
          have hnn : negU u (i + 1) = negU u i + (if u i = 0 then 1 else 0) := rfl
          have hni := sumN_mono (fun x => if u x = 0 then 1 else 0) (show i + 1 ≤ 64 by omega)
          have hni2 : negU u (i + 1) ≤ negU u 64 := hni
          refine WX.s1 rfl rfl ?_
          refine WX.s1 rfl rfl ?_
          refine WX.icmp rfl (fun c_43 => absurd c_43 (fun zz_ => absurd ((nI_leI (a := 64) (b := i) (by omega) (by omega)).mp zz_) (Nat.not_le.mpr (by omega)))) (fun c_43 => ?_)
          clear c_43
          refine WX.s1 rfl rfl ?_
          refine WX.s1 rfl rfl ?_
          refine WX.s1 rfl rfl ?_
          refine WX.s1 (S' := [.int ((nI f) + (nI i)), .ref (m + 9)]) rfl rfl ?_
          rw [show ((nI f) + (nI i)) = nI (f + i) from nI_add f i]
          refine WX.mald (c := 9) rfl hm M_hL (by decide) (by decide) (by decide) (by decide) (vp_in_nI (N := 192) (by omega) (by decide)) ?_
          rw [nI_clamp (by omega), FA_AL.1 9 (by decide), hU i (by omega)]
          refine WX.s1 rfl rfl ?_
          refine WX.icmp rfl (fun c_53 => ?_) (fun c_53 => ?_)
          · skip
            refine WX.s1 (L' := [(0, .ref m), (1, .ref (m + 9)), (2, .int (nI f)), (3, .int 64), (4, .int (nI o)), (5, .int (nI T)), (6, .int (nI (2 ^ o))), (7, .int (nI (2 ^ o - negU u i))), (8, .int ((nI i) + 1))]) rfl rfl ?_
            rw [show ((nI i) + 1) = nI (i + 1) from nI_add i 1]
            refine WX.s1 rfl rfl ?_
            have hz : ¬ u i = 0 := fun z => c_53 (by rw [z]; rfl)
            have hnn2 : negU u (i + 1) = negU u i := by rw [if_neg hz] at hnn; omega
            have h9 := ih (i + 1) hL AL (by omega) FR_hL M_hL FA_AL (by rw [hnn2]; exact hP)
            rw [hnn2] at h9
            exact h9
          · skip
            have hz : u i = 0 := by
              apply Classical.byContradiction
              intro z
              have c := Classical.not_not.mp c_53
              rw [qI_pr (by omega)] at c
              exact nI_m1ne (by omega) c
            rw [if_pos hz] at hnn
            refine WX.s1 (L' := [(0, .ref m), (1, .ref (m + 9)), (2, .int (nI f)), (3, .int 64), (4, .int (nI o)), (5, .int (nI T)), (6, .int (nI (2 ^ o))), (7, .int ((nI (2 ^ o - negU u i)) + (-1))), (8, .int (nI i))]) rfl rfl ?_
            rw [show nI (2 ^ o - negU u i) + (-1) = nI (2 ^ o - negU u (i + 1)) from (qI_dec _).trans ((qI_pr (by omega)).trans (congrArg nI (by omega)))]
            refine WX.s1 rfl rfl ?_
            refine WX.mget rfl hm M_hL rfl ?_
            refine WX.s1 rfl rfl ?_
            refine WX.s1 rfl rfl ?_
            refine WX.s1 (S' := [.int ((nI T) + (nI (2 ^ o - negU u (i + 1)))), .ref (m + 26)]) rfl rfl ?_
            rw [show ((nI T) + (nI (2 ^ o - negU u (i + 1)))) = nI (T + (2 ^ o - negU u (i + 1))) from nI_add T (2 ^ o - negU u (i + 1))]
            refine WX.s1 rfl rfl ?_
            refine WX.mast (c := 26) rfl hm M_hL (by decide) (by decide) (by decide) (by decide) (vp_in_nI (N := 2048) (by omega) (by decide)) (fun h70n6 A70n6 e_A70n6 M_h70n6 frh70n6 => ?_)
            try dsimp only at e_A70n6
            have FR_h70n6 := FR_hL.ztr frh70n6
            clear M_hL FR_hL frh70n6
            refine WX.s1 (L' := [(0, .ref m), (1, .ref (m + 9)), (2, .int (nI f)), (3, .int 64), (4, .int (nI o)), (5, .int (nI T)), (6, .int (nI (2 ^ o))), (7, .int (nI (2 ^ o - negU u (i + 1)))), (8, .int ((nI i) + 1))]) rfl rfl ?_
            rw [show ((nI i) + 1) = nI (i + 1) from nI_add i 1]
            refine WX.s1 rfl rfl ?_
            rw [nI_clamp (by omega)] at e_A70n6
            have how : ownF u 64 o (2 ^ o - negU u (i + 1)) = i := by
              unfold ownF
              rw [if_neg (by omega), show 2 ^ o - 1 - (2 ^ o - negU u (i + 1)) = negU u i by omega]
              exact hiR_is hz _ (by omega)
            refine ih (i + 1) h70n6 A70n6 (by omega) FR_h70n6 M_h70n6 (FA_AL.ast e_A70n6 (by decide) (by omega)) (fun q hq => ?_)
            rw [e_A70n6, upA_same]
            by_cases z : q = 2 ^ o - negU u (i + 1)
            · rw [z, pk_us, if_pos (Nat.le_refl _), how]
            · rw [pk_un (by omega), hP q hq]
              by_cases y : 2 ^ o - negU u i ≤ q
              · rw [if_pos y, if_pos (by omega)]
              · rw [if_neg y, if_neg (by omega)]
      exact lp40 64 0 hL AL (by omega) FR_hL M_hL FA_AL (fun q hq => by rw [if_neg (show ¬ 2 ^ o - negU u 0 ≤ q by show ¬ 2 ^ o - 0 ≤ q; omega)]; exact hP0 q hq)
    | succ tt ih =>
      intro i hL AL hi FR_hL M_hL FA_AL hP
      refine WX.s1 rfl rfl ?_
      refine WX.s1 rfl rfl ?_
      refine WX.icmp rfl (fun c_13 => absurd c_13 (fun zz_ => absurd ((nI_leI (a := 2 ^ o) (b := i) (by omega) (by omega)).mp zz_) (Nat.not_le.mpr (by omega)))) (fun c_13 => ?_)
      clear c_13
      refine WX.s1 rfl rfl ?_
      refine WX.mget rfl hm M_hL rfl ?_
      refine WX.s1 rfl rfl ?_
      refine WX.s1 rfl rfl ?_
      refine WX.s1 (S' := [.int ((nI T) + (nI i)), .ref (m + 26)]) rfl rfl ?_
      rw [show ((nI T) + (nI i)) = nI (T + i) from nI_add T i]
      refine WX.s1 rfl rfl ?_
      refine WX.mast (c := 26) rfl hm M_hL (by decide) (by decide) (by decide) (by decide) (vp_in_nI (N := 2048) (by omega) (by decide)) (fun h26n7 A26n7 e_A26n7 M_h26n7 frh26n7 => ?_)
      try dsimp only at e_A26n7
      have FR_h26n7 := FR_hL.ztr frh26n7
      clear M_hL FR_hL frh26n7
      refine WX.s1 (L' := [(0, .ref m), (1, .ref (m + 9)), (2, .int (nI f)), (3, .int 64), (4, .int (nI o)), (5, .int (nI T)), (6, .int (nI (2 ^ o))), (7, .int ((nI i) + 1))]) rfl rfl ?_
      rw [show ((nI i) + 1) = nI (i + 1) from nI_add i 1]
      refine WX.s1 rfl rfl ?_
      rw [nI_clamp (by omega)] at e_A26n7
      refine ih (i + 1) h26n7 A26n7 (by omega) FR_h26n7 M_h26n7 (FA_AL.ast e_A26n7 (by decide) (by omega)) (fun q hq => ?_)
      rw [e_A26n7, upA_same]
      by_cases z : q = i
      · rw [z, pk_us]
      · rw [pk_un (by omega)]; exact hP q (by omega)
  exact lp9 (2 ^ o) 0 h AR (by omega) FR_h M_h FaT.rf (fun q hq => absurd hq (Nat.not_lt_zero q))
