/-! the reference: divide, its rows -/
theorem rpick_some {p : Option Nat} {hd : Nat → Nat} {b : Nat} (h : rpick p hd = some b) : p = some b ∧ hd b = 0 := by
  cases p with
  | none => cases h
  | some c =>
    have h : (if hd c = 0 then some c else none) = some b := h
    by_cases q : hd c = 0
    · rw [if_pos q] at h
      cases h
      exact ⟨rfl, q⟩
    · rw [if_neg q] at h
      cases h
def CntM (A : Nat → Nat → Int32) (cnt : Nat → Nat) : Prop := ∀ s, s < 64 → A 33 s = nI (cnt s)
theorem lk_inc {a b : Nat} (h : 1 ≤ b) : nI a - nI b + 1 = nI a - nI (b - 1) := by
  obtain ⟨c, rfl⟩ : ∃ c, b = c + 1 := ⟨b - 1, by omega⟩
  rw [show c + 1 - 1 = c by omega, ← nI_1, ← Int32.sub_sub, Int32.sub_add_cancel]
theorem lk_ge {a b : Nat} (ha : a < 2 ^ 30) (hb : b < 2 ^ 30) : 0 ≤ nI a - nI b ↔ b ≤ a := by
  rw [Int32.le_iff_toInt_le, Int32.toInt_sub, nI_toInt (by omega), nI_toInt (by omega), Int.bmod_eq_of_le (by omega) (by omega)]
  show 0 ≤ (a : Int) - b ↔ _
  omega
theorem qI_pr {z : Nat} (h : 1 ≤ z) : qI z = nI (z - 1) := if_neg (by omega)
set_option maxRecDepth 20000 in
theorem m_mass {d n s : Nat} {h : Nat → aE} {u : Nat}  (hu : u < 2 ^ 31)   {Ψ : Option Value → aH → Prop} (kk : Ψ (some (.int (nI (massU u)))) (n, s, h)) : WO (mM (d + 1)) 164 [.int (qI u)] (n, s, h) Ψ := by
  refine WO.of (Nat.le_of_ble_eq_true rfl) ?_
  show WX (lk tX12_mass) (mM d) Ψ 0 [(0, .int (qI u))] [] (n, s, h)
  refine WX.s1 rfl rfl ?_
  cases u with
  | zero =>
    rw [qI0]
    refine WX.if_ rfl (fun c => absurd c (by decide)) (fun _ => ?_)
    refine WX.s1 rfl rfl ?_
    refine WX.s1 rfl rfl ?_
    exact WX.ret1 rfl kk
  | succ u =>
    rw [qIs]
    refine WX.if_ rfl (fun _ => ?_) (fun c => absurd (nI_pos' (by omega)) c)
    refine WX.s1 rfl rfl ?_
    exact WX.ret1 rfl kk
set_option maxRecDepth 20000 in
theorem m_divide {d n s : Nat} {h : Nat → aE} {m : Nat} {I : Nat → Int32} {AR : Nat → Nat → Int32} {LN : Nat → Int64} {cnt : Nat → Nat} {o : Nat} (hm : m + 43 < n) (M_h : MAt h m I AR LN) (hcA : CntM AR cnt) (ho : o ≤ 9) (ht0 : 0 < (sumN cnt 64)) (htb : (sumN cnt 64) ≤ 100000) (hnz : nzC cnt 64 ≤ 2 ^ o)  {Ψ : Option Value → aH → Prop} (kk : ∀ h' A', Fr h h' (inM m) → MAt h' m I A' LN → FaS AR A' (fun b => b = 30 ∨ b = 31 ∨ b = 32) → (∀ s, s < 64 → A' 30 s = qI (wU cnt o 64 s)) → Ψ none (n, s, h')) : WO (mM (d + 2)) 169 [.ref m, .int (nI (sumN cnt 64)), .int (nI o)] (n, s, h) Ψ := by
  refine WO.of (Nat.le_of_ble_eq_true rfl) ?_
  have FR_h : Fr h h (inM m) := Fr.rf
  have FI_I : Fi I I (fun f => f = 40) := Fi.rf
  have h2o : 2 ^ o ≤ 2 ^ 9 := Nat.pow_le_pow_right (by decide) ho
  have h2p : 0 < 2 ^ o := Nat.pow_pos (by decide)
  have hu0 : ∀ s, s < 64 → (u0F cnt (sumN cnt 64) o) s ≤ 2 ^ o + 1 := fun s hs => u0_le rfl hs ht0
  show WX (lk tX12_divide) (mM (d + 1)) Ψ 0 [(0, .ref m), (1, .int (nI (sumN cnt 64))), (2, .int (nI o))] [] (n, s, h)
  refine WX.s1 rfl rfl ?_
  refine WX.s1 rfl rfl ?_
  refine WX.s1 (S' := [.int (1 <<< ((nI o) &&& 31))]) rfl rfl ?_
  rw [sh1 o (by omega)]
  refine WX.s1 (L' := [(0, .ref m), (1, .int (nI (sumN cnt 64))), (2, .int (nI o)), (3, .int (nI (2 ^ o)))]) rfl rfl ?_
  refine WX.s1 rfl rfl ?_
  refine WX.s1 (L' := [(0, .ref m), (1, .int (nI (sumN cnt 64))), (2, .int (nI o)), (3, .int (nI (2 ^ o))), (4, .int 0)]) rfl rfl ?_
  have hS : ∀ i, i ≤ 64 → (sumN (fun s => massU ((u0F cnt (sumN cnt 64) o) s)) i) ≤ i * 600 := by
    intro i
    induction i with
    | zero => intro _; exact Nat.zero_le _
    | succ i ih =>
      intro hi
      have h1 := ih (by omega)
      have h2 := hu0 i (by omega)
      have h3 : massU ((u0F cnt (sumN cnt 64) o) i) ≤ 600 := by unfold massU; by_cases z : (u0F cnt (sumN cnt 64) o) i = 0; (rw [if_pos z]; decide); (rw [if_neg z]; omega)
      show (sumN (fun s => massU ((u0F cnt (sumN cnt 64) o) s)) i) + massU ((u0F cnt (sumN cnt 64) o) i) ≤ _
      omega
  have lpA : ∀ (tt i : Nat) (hL : Nat → aE) (AL : Nat → Nat → Int32), i + tt = 64 → Fr h hL (inM m) → MAt hL m I AL LN → FaS AR AL (fun b => b = 30 ∨ b = 31 ∨ b = 32) → (∀ s, s < i → AL 30 s = qI ((u0F cnt (sumN cnt 64) o) s) ∧ AL 31 s = nI (cnt s * 2 ^ o % (sumN cnt 64)) ∧ AL 32 s = 0) → WX (lk tX12_divide) (mM (d + 1)) Ψ 7 [(0, .ref m), (1, .int (nI (sumN cnt 64))), (2, .int (nI o)), (3, .int (nI (2 ^ o) - nI (sumN (fun s => massU ((u0F cnt (sumN cnt 64) o) s)) i))), (4, .int (nI i))] [] (n, s, hL) := by
    clear M_h FR_h
    intro tt
    induction tt with
    | zero =>
      intro i hL AL hi FR_hL M_hL FA_AL hP
      have hSi := hS i (by omega)
      obtain rfl : i = 64 := by omega
      refine WX.s1 rfl rfl ?_
      refine WX.s1 rfl rfl ?_
      refine WX.icmp rfl (fun c_11 => ?_) (fun c_11 => absurd ((nI_leI (a := 64) (b := 64) (by omega) (by omega)).mpr (by omega)) c_11)
      clear c_11
      refine WX.keep (y := 169) [0, 1, 2, 3] (show ([0, 1, 2, 3, 4] : List Nat).Nodup by decide) rfl ?_
      have hms : (sumN (fun s => massU ((u0F cnt (sumN cnt 64) o) s)) 64) = mSum (u0F cnt (sumN cnt 64) o) 64 := rfl
      rw [hms] at hSi ⊢
      by_cases hlt : mSum (u0F cnt (sumN cnt 64) o) 64 < 2 ^ o
      · rw [nI_subN (Nat.le_of_lt hlt)]
        obtain ⟨s0, hs0, hc0, hle0⟩ := ex_share rfl ht0 h2p hnz
        have hs2 : 2 ≤ (u0F cnt (sumN cnt 64) o) s0 := by
          unfold u0F
          rw [if_neg hc0, if_neg (by omega)]
          have : 1 ≤ cnt s0 * 2 ^ o / (sumN cnt 64) := (Nat.le_div_iff_mul_le ht0).mpr (by omega)
          omega
        generalize hcc : 2 ^ o - mSum (u0F cnt (sumN cnt 64) o) 64 = c
        have lpB : ∀ (tt j ρ : Nat) (hd : Nat → Nat) (hL : Nat → aE) (AL : Nat → Nat → Int32), 2 * (c - j) + (if rpick (pickO (gvN (sumN cnt 64) 64 ((u0F cnt (sumN cnt 64) o), (fun s => ((cnt s * 2 ^ o % (sumN cnt 64) : Nat) : Int))) j).1 (gvN (sumN cnt 64) 64 ((u0F cnt (sumN cnt 64) o), (fun s => ((cnt s * 2 ^ o % (sumN cnt 64) : Nat) : Int))) j).2 64) hd = none then 1 else 0) ≤ tt → j ≤ c → Fr h hL (inM m) → MAt hL m I AL LN → FaS AR AL (fun b => b = 30 ∨ b = 31 ∨ b = 32) → (∀ s, s < 64 → AL 30 s = qI ((gvN (sumN cnt 64) 64 ((u0F cnt (sumN cnt 64) o), (fun s => ((cnt s * 2 ^ o % (sumN cnt 64) : Nat) : Int))) j).1 s)) → (∀ s, s < 64 → AL 31 s = nI (cnt s * 2 ^ o % (sumN cnt 64))) → (∀ s, s < 64 → AL 32 s = nI (hd s)) → HadR (gvN (sumN cnt 64) 64 ((u0F cnt (sumN cnt 64) o), (fun s => ((cnt s * 2 ^ o % (sumN cnt 64) : Nat) : Int))) j).1 (gvN (sumN cnt 64) 64 ((u0F cnt (sumN cnt 64) o), (fun s => ((cnt s * 2 ^ o % (sumN cnt 64) : Nat) : Int))) j).2 (fun s => cnt s * 2 ^ o % (sumN cnt 64)) hd (sumN cnt 64) ρ → WX (lk tX12_divide) (mM (d + 1)) Ψ 93 [(0, .ref m), (1, .int (nI (sumN cnt 64))), (2, .int (nI o)), (3, .int (nI (c - j)))] [] (n, s, hL) := by
          clear M_hL FR_hL FA_AL hP
          intro tt
          induction tt with
          | zero =>
            intro j ρ hd hL AL hm1 hjc FR_hL M_hL FA_AL h30 h31 h32 hH
            have hcj : c - j = 0 := by omega
            refine WX.s1 rfl rfl ?_
            refine WX.if_ rfl (fun c_94 => ?_) (fun c_94 => absurd ((nI_leI (a := c - j) (b := 0) (by omega) (by omega)).mpr (by omega)) c_94)
            clear c_94
            refine WX.s1 rfl rfl ?_
            refine WX.if_ rfl (fun c_220 => ?_) (fun c_220 => absurd ((nI_leI (a := 0) (b := c - j) (by omega) (by omega)).mpr (by omega)) c_220)
            clear c_220
            refine WX.ret0 rfl (kk hL AL FR_hL M_hL FA_AL (fun s hs => ?_))
            rw [h30 s hs]
            unfold wU
            rw [if_pos hlt, hcc, show c = j by omega]
          | succ tt ih =>
            intro j ρ hd hL AL hm1 hjc FR_hL M_hL FA_AL h30 h31 h32 hH
            have hgi := gv_inv (r := (fun s => ((cnt s * 2 ^ o % (sumN cnt 64) : Nat) : Int))) (t := (sumN cnt 64)) hs0 hs2 j
            have hgn : gvN (sumN cnt 64) 64 ((u0F cnt (sumN cnt 64) o), (fun s => ((cnt s * 2 ^ o % (sumN cnt 64) : Nat) : Int))) (j + 1) = gvS (sumN cnt 64) 64 (gvN (sumN cnt 64) 64 ((u0F cnt (sumN cnt 64) o), (fun s => ((cnt s * 2 ^ o % (sumN cnt 64) : Nat) : Int))) j) := rfl
            generalize hg : (gvN (sumN cnt 64) 64 ((u0F cnt (sumN cnt 64) o), (fun s => ((cnt s * 2 ^ o % (sumN cnt 64) : Nat) : Int))) j) = gx at hm1 h30 hH hgi hgn
            obtain ⟨uj, rj⟩ := gx
            have h30 : ∀ s, s < 64 → AL 30 s = qI (uj s) := h30
            have hH : HadR uj rj (fun s => cnt s * 2 ^ o % (sumN cnt 64)) hd (sumN cnt 64) ρ := hH
            have hm1 : 2 * (c - j) + (if rpick (pickO uj rj 64) hd = none then 1 else 0) ≤ tt + 1 := hm1
            have hub : ∀ s, s < 64 → uj s ≤ 10000 := fun s hs => by have h1 : uj s ≤ (u0F cnt (sumN cnt 64) o) s + j := hgi.2.2.2.2 s; have := hu0 s hs; omega
            have hel : 2 ≤ uj s0 := by have h1 : (u0F cnt (sumN cnt 64) o) s0 ≤ uj s0 := hgi.2.2.1 s0; omega
            refine WX.s1 rfl rfl ?_
            refine WX.if_ rfl (fun c_94 => ?_) (fun c_94 => ?_)
            · skip
              have n_94 : (c - j) ≤ 0 := (nI_leI (a := c - j) (b := 0) (by omega) (by omega)).mp c_94
              refine WX.s1 rfl rfl ?_
              refine WX.if_ rfl (fun c_220 => ?_) (fun c_220 => absurd ((nI_leI (a := 0) (b := c - j) (by omega) (by omega)).mpr (by omega)) c_220)
              clear c_220
              refine WX.ret0 rfl (kk hL AL FR_hL M_hL FA_AL (fun s hs => ?_))
              rw [h30 s hs]
              unfold wU
              rw [if_pos hlt, hcc, show c = j by omega, hg]
            · skip
              have n_94 : 0 < (c - j) := Nat.lt_of_not_le (fun zz_ => c_94 ((nI_leI (a := c - j) (b := 0) (by omega) (by omega)).mpr zz_))
              refine WX.s1 rfl rfl ?_
              refine WX.s1 (L' := [(0, .ref m), (1, .int (nI (sumN cnt 64))), (2, .int (nI o)), (3, .int (nI (c - j))), (4, .int (-1))]) rfl rfl ?_
              refine WX.s1 rfl rfl ?_
              refine WX.s1 (L' := [(0, .ref m), (1, .int (nI (sumN cnt 64))), (2, .int (nI o)), (3, .int (nI (c - j))), (4, .int (-1)), (5, .int 0)]) rfl rfl ?_
              have in_ : ∀ (t2 i : Nat), i + t2 = 64 → WX (lk tX12_divide) (mM (d + 1)) Ψ 103 [(0, .ref m), (1, .int (nI (sumN cnt 64))), (2, .int (nI o)), (3, .int (nI (c - j))), (4, .int (oI (rpick (pickO uj rj i) hd))), (5, .int (nI i))] [] (n, s, hL) := by
                intro t2
                induction t2 with
                | zero =>
                  intro i hi
                  cases hr : (rpick (pickO uj rj i) hd) with
                  | none =>
                    show WX _ _ _ 103 [(0, .ref m), (1, .int (nI (sumN cnt 64))), (2, .int (nI o)), (3, .int (nI (c - j))), (4, .int (-1)), (5, .int (nI i))] [] (n, s, hL)
                    obtain rfl : i = 64 := by omega
                    refine WX.s1 rfl rfl ?_
                    refine WX.s1 rfl rfl ?_
                    refine WX.icmp rfl (fun c_107 => ?_) (fun c_107 => absurd ((nI_leI (a := 64) (b := 64) (by omega) (by omega)).mpr (by omega)) c_107)
                    clear c_107
                    refine WX.s1 rfl rfl ?_
                    refine WX.if_ rfl (fun c_164 => absurd c_164 (by decide)) (fun c_164 => ?_)
                    refine WX.s1 rfl rfl ?_
                    refine WX.s1 (L' := [(0, .ref m), (1, .int (nI (sumN cnt 64))), (2, .int (nI o)), (3, .int (nI (c - j))), (4, .int (-1)), (5, .int 0)]) rfl rfl ?_
                    refine WX.keep (y := 169) [0, 1, 2, 3, 5] (show ([0, 1, 2, 3, 4, 5] : List Nat).Nodup by decide) rfl ?_
                    have rs : ∀ (t3 i : Nat) (hM : Nat → aE) (AM : Nat → Nat → Int32), i + t3 = 64 → Fr h hM (inM m) → MAt hM m I AM LN → Fa AL AM 32 → (∀ s, s < i → AM 32 s = 0) → WX (lk tX12_divide) (mM (d + 1)) Ψ 170 [(0, .ref m), (1, .int (nI (sumN cnt 64))), (2, .int (nI o)), (3, .int (nI (c - j))), (5, .int (nI i))] [] (n, s, hM) := by
                      clear M_hL FR_hL
                      intro t3
                      induction t3 with
                      | zero =>
                        intro i hM AM hi3 FR_hM M_hM FA_AM hz
                        refine WX.s1 rfl rfl ?_
                        refine WX.s1 rfl rfl ?_
                        refine WX.icmp rfl (fun c_174 => ?_) (fun c_174 => absurd ((nI_leI (a := 64) (b := i) (by omega) (by omega)).mpr (by omega)) c_174)
                        clear c_174
                        refine WX.s1 rfl rfl ?_
                        refine WX.keep (y := 169) [0, 1, 2, 3] (show ([0, 1, 2, 3, 5] : List Nat).Nodup by decide) rfl ?_
                        have hall := rpick_none hH (Nat.le_refl 64) hr
                        have hH2 := hH.next hall
                        have hpk : rpick (pickO uj rj 64) (fun _ => 0) ≠ none := by
                          rw [rpick_all (fun s hs => rfl)]
                          obtain ⟨b, hb⟩ := pick_some (u := uj) (r := rj) hs0 hel
                          rw [hb]
                          intro z; cases z
                        refine ih j (ρ + 1) (fun _ => 0) hM AM (by rw [hg]; show 2 * (c - j) + (if rpick (pickO uj rj 64) (fun _ => 0) = none then 1 else 0) ≤ tt; rw [if_neg hpk]; rw [if_pos hr] at hm1; omega) hjc FR_hM M_hM (fun b hb => (FA_AM b (fun z => hb (by rw [z]; decide))).trans (FA_AL b hb)) (by rw [hg]; intro s hs; rw [FA_AM 30 (by decide)]; exact h30 s hs) (by intro s hs; rw [FA_AM 31 (by decide)]; exact h31 s hs) (fun s hs => hz s (by omega)) (by rw [hg]; exact hH2)
                      | succ t3 ih3 =>
                        intro i hM AM hi3 FR_hM M_hM FA_AM hz
                        refine WX.s1 rfl rfl ?_
                        refine WX.s1 rfl rfl ?_
                        refine WX.icmp rfl (fun c_174 => absurd c_174 (fun zz_ => absurd ((nI_leI (a := 64) (b := i) (by omega) (by omega)).mp zz_) (Nat.not_le.mpr (by omega)))) (fun c_174 => ?_)
                        clear c_174
                        refine WX.s1 rfl rfl ?_
                        refine WX.mget rfl hm M_hM rfl ?_
                        refine WX.s1 rfl rfl ?_
                        refine WX.s1 rfl rfl ?_
                        refine WX.mzast rfl hm M_hM (vp_in_nI (N := 64) (by omega) (by decide)) (fun h184n1 A184n1 e_A184n1 M_h184n1 frh184n1 => ?_)
                        try dsimp only at e_A184n1
                        have FR_h184n1 := FR_hM.ztr frh184n1
                        clear M_hM FR_hM frh184n1
                        refine WX.s1 (L' := [(0, .ref m), (1, .int (nI (sumN cnt 64))), (2, .int (nI o)), (3, .int (nI (c - j))), (5, .int ((nI i) + 1))]) rfl rfl ?_
                        rw [show ((nI i) + 1) = nI (i + 1) from nI_add i 1]
                        refine WX.s1 rfl rfl ?_
                        rw [nI_clamp (by omega)] at e_A184n1
                        refine ih3 (i + 1) h184n1 A184n1 (by omega) FR_h184n1 M_h184n1 (FA_AM.ast e_A184n1) (fun s hs => ?_)
                        rw [e_A184n1, upA_same]
                        by_cases z : s = i
                        · rw [z, pk_us]; decide
                        · rw [pk_un z]; exact hz s (by omega)
                    exact rs 64 0 hL AL (by omega) FR_hL M_hL (fun _ _ => rfl) (fun s hs => absurd hs (Nat.not_lt_zero s))
                  | some b =>
                    show WX _ _ _ 103 [(0, .ref m), (1, .int (nI (sumN cnt 64))), (2, .int (nI o)), (3, .int (nI (c - j))), (4, .int (nI b)), (5, .int (nI i))] [] (n, s, hL)
                    obtain ⟨hpb, hb0⟩ := rpick_some hr
                    obtain ⟨hbi, hb2⟩ := pick_lt hpb
                    obtain rfl : i = 64 := by omega
                    have hcj1 : 1 ≤ c - j := by omega
                    refine WX.s1 rfl rfl ?_
                    refine WX.s1 rfl rfl ?_
                    refine WX.icmp rfl (fun c_107 => ?_) (fun c_107 => absurd ((nI_leI (a := 64) (b := 64) (by omega) (by omega)).mpr (by omega)) c_107)
                    clear c_107
                    refine WX.s1 rfl rfl ?_
                    refine WX.if_ rfl (fun c_164 => ?_) (fun c_164 => absurd (nI_pos' (by omega)) c_164)
                    refine WX.s1 rfl rfl ?_
                    refine WX.mget rfl hm M_hL rfl ?_
                    refine WX.s1 rfl rfl ?_
                    refine WX.s1 rfl rfl ?_
                    refine WX.mald (c := 30) rfl hm M_hL (by decide) (by decide) (by decide) (by decide) (vp_in_nI (N := 64) (by omega) (by decide)) ?_
                    rw [nI_clamp (by omega), h30 b (by omega)]
                    refine WX.s1 rfl rfl ?_
                    refine WX.s1 (S' := [.int ((qI (uj b)) + 1), .int (nI b), .ref (m + 30)]) rfl rfl ?_
                    rw [qI_inc (by omega)]
                    refine WX.mast (c := 30) rfl hm M_hL (by decide) (by decide) (by decide) (by decide) (vp_in_nI (N := 64) (by omega) (by decide)) (fun h204n2 A204n2 e_A204n2 M_h204n2 frh204n2 => ?_)
                    try dsimp only at e_A204n2
                    have FR_h204n2 := FR_hL.ztr frh204n2
                    clear M_hL FR_hL frh204n2
                    refine WX.s1 rfl rfl ?_
                    refine WX.mget rfl hm M_h204n2 rfl ?_
                    refine WX.s1 rfl rfl ?_
                    refine WX.s1 rfl rfl ?_
                    refine WX.mzast rfl hm M_h204n2 (vp_in_nI (N := 64) (by omega) (by decide)) (fun h212n3 A212n3 e_A212n3 M_h212n3 frh212n3 => ?_)
                    try dsimp only at e_A212n3
                    have FR_h212n3 := FR_h204n2.ztr frh212n3
                    clear M_h204n2 FR_h204n2 frh212n3
                    refine WX.s1 (L' := [(0, .ref m), (1, .int (nI (sumN cnt 64))), (2, .int (nI o)), (3, .int ((nI (c - j)) + (-1))), (4, .int (nI b)), (5, .int (nI 64))]) rfl rfl ?_
                    refine WX.s1 rfl rfl ?_
                    refine WX.keep (y := 169) [0, 1, 2, 3] (show ([0, 1, 2, 3, 4, 5] : List Nat).Nodup by decide) rfl ?_
                    rw [show (nI (c - j)) + (-1) = nI (c - (j + 1)) from (qI_dec _).trans ((qI_pr hcj1).trans (congrArg nI (by omega)))]
                    rw [nI_clamp (by omega)] at e_A204n2 e_A212n3
                    have es : gvN (sumN cnt 64) 64 ((u0F cnt (sumN cnt 64) o), (fun s => ((cnt s * 2 ^ o % (sumN cnt 64) : Nat) : Int))) (j + 1) = (updN uj b (uj b + 1), updZ rj b (rj b - ((sumN cnt 64) : Nat))) := by rw [hgn]; unfold gvS; dsimp only; rw [hpb]
                    refine ih (j + 1) ρ (updN hd b 1) h212n3 A212n3 (by rw [if_neg (by rw [hr]; intro z; cases z)] at hm1; split <;> omega) (by omega) FR_h212n3 M_h212n3 ((FA_AL.ast e_A204n2 (by decide)).ast e_A212n3 (by decide)) (by rw [es]; intro s hs; show _ = qI (updN uj b (uj b + 1) s); rw [e_A212n3, upA_ne (by decide), e_A204n2, upA_same]; by_cases z : s = b; (rw [z, pk_us, updN_s]); (rw [pk_un z, updN_n z]; exact h30 s hs)) (by intro s hs; rw [e_A212n3, upA_ne (by decide), e_A204n2, upA_ne (by decide)]; exact h31 s hs) (by intro s hs; rw [e_A212n3, upA_same, e_A204n2, upA_ne (by decide)]; by_cases z : s = b; (rw [z, pk_us, updN_s]; decide); (rw [pk_un z, updN_n z]; exact h32 s hs)) (by rw [es]; exact hH.give (by omega) hb2 hb0)
                | succ t2 ih2 =>
                  intro i hi
                  have hstep := rpick_step hH (show i < 64 by omega)
                  cases hr : (rpick (pickO uj rj i) hd) with
                  | none =>
                    show WX _ _ _ 103 [(0, .ref m), (1, .int (nI (sumN cnt 64))), (2, .int (nI o)), (3, .int (nI (c - j))), (4, .int (-1)), (5, .int (nI i))] [] (n, s, hL)
                    have hui := hub i (by omega)
                    have hhi := (hH i (by omega)).2.1
                    have hmi : cnt i * 2 ^ o % (sumN cnt 64) < 100000 := Nat.lt_of_lt_of_le (Nat.mod_lt _ ht0) htb
                    rw [hr] at hstep
                    dsimp only at hstep
                    refine WX.s1 rfl rfl ?_
                    refine WX.s1 rfl rfl ?_
                    refine WX.icmp rfl (fun c_107 => absurd c_107 (fun zz_ => absurd ((nI_leI (a := 64) (b := i) (by omega) (by omega)).mp zz_) (Nat.not_le.mpr (by omega)))) (fun c_107 => ?_)
                    clear c_107
                    refine WX.s1 rfl rfl ?_
                    refine WX.mget rfl hm M_hL rfl ?_
                    refine WX.s1 rfl rfl ?_
                    refine WX.mald (c := 30) rfl hm M_hL (by decide) (by decide) (by decide) (by decide) (vp_in_nI (N := 64) (by omega) (by decide)) ?_
                    rw [nI_clamp (by omega), h30 i (by omega)]
                    refine WX.if_ rfl (fun c_117 => ?_) (fun c_117 => ?_)
                    · skip
                      refine WX.s1 (L' := [(0, .ref m), (1, .int (nI (sumN cnt 64))), (2, .int (nI o)), (3, .int (nI (c - j))), (4, .int (-1)), (5, .int ((nI i) + 1))]) rfl rfl ?_
                      rw [show ((nI i) + 1) = nI (i + 1) from nI_add i 1]
                      refine WX.s1 rfl rfl ?_
                      have hz : rpick (pickO uj rj (i + 1)) hd = none := by
                        rw [hstep]
                        first
                          | exact if_neg (fun z => absurd ((qI_le0 (by omega)).mp c_117) (by omega))
                          | exact if_neg (fun z => n_127 z.2)
                      have h9 := ih2 (i + 1) (by omega)
                      rw [hz] at h9
                      exact h9
                    · skip
                      refine WX.s1 rfl rfl ?_
                      refine WX.mget rfl hm M_hL rfl ?_
                      refine WX.s1 rfl rfl ?_
                      refine WX.mzald rfl hm M_hL (vp_in_nI (N := 64) (by omega) (by decide)) ?_
                      rw [nI_clamp (by omega), h32 i (by omega)]
                      refine WX.if_ rfl (fun c_127 => ?_) (fun c_127 => ?_)
                      · skip
                        have n_127 : ¬ (hd i) = 0 := fun zz_ => c_127 ((nI_eq (a := hd i) (b := 0) (by omega) (by omega)).mpr zz_)
                        refine WX.s1 (L' := [(0, .ref m), (1, .int (nI (sumN cnt 64))), (2, .int (nI o)), (3, .int (nI (c - j))), (4, .int (-1)), (5, .int ((nI i) + 1))]) rfl rfl ?_
                        rw [show ((nI i) + 1) = nI (i + 1) from nI_add i 1]
                        refine WX.s1 rfl rfl ?_
                        have hz : rpick (pickO uj rj (i + 1)) hd = none := by
                          rw [hstep]
                          first
                            | exact if_neg (fun z => absurd ((qI_le0 (by omega)).mp c_117) (by omega))
                            | exact if_neg (fun z => n_127 z.2)
                        have h9 := ih2 (i + 1) (by omega)
                        rw [hz] at h9
                        exact h9
                      · skip
                        have n_127 : (hd i) = 0 := (nI_eq (a := hd i) (b := 0) (by omega) (by omega)).mp (Classical.not_not.mp c_127)
                        refine WX.s1 rfl rfl ?_
                        refine WX.if_ rfl (fun c_132 => ?_) (fun c_132 => absurd (by decide) c_132)
                        refine WX.s1 rfl rfl ?_
                        refine WX.s1 (L' := [(0, .ref m), (1, .int (nI (sumN cnt 64))), (2, .int (nI o)), (3, .int (nI (c - j))), (4, .int (nI i)), (5, .int (nI i))]) rfl rfl ?_
                        refine WX.s1 (L' := [(0, .ref m), (1, .int (nI (sumN cnt 64))), (2, .int (nI o)), (3, .int (nI (c - j))), (4, .int (nI i)), (5, .int ((nI i) + 1))]) rfl rfl ?_
                        rw [show ((nI i) + 1) = nI (i + 1) from nI_add i 1]
                        refine WX.s1 rfl rfl ?_
                        have hz : rpick (pickO uj rj (i + 1)) hd = some i := by
                          rw [hstep]
                          rw [if_pos (show 2 ≤ uj i ∧ hd i = 0 from ⟨Nat.lt_of_not_le (fun z => c_117 ((qI_le0 (by omega)).mpr z)), n_127⟩)]
                        have h9 := ih2 (i + 1) (by omega)
                        rw [hz] at h9
                        exact h9
                  | some b =>
                    show WX _ _ _ 103 [(0, .ref m), (1, .int (nI (sumN cnt 64))), (2, .int (nI o)), (3, .int (nI (c - j))), (4, .int (nI b)), (5, .int (nI i))] [] (n, s, hL)
                    obtain ⟨hpb, hb0⟩ := rpick_some hr
                    obtain ⟨hbi, hb2⟩ := pick_lt hpb
                    have hui := hub i (by omega)
                    have hhi := (hH i (by omega)).2.1
                    have hmi : cnt i * 2 ^ o % (sumN cnt 64) < 100000 := Nat.lt_of_lt_of_le (Nat.mod_lt _ ht0) htb
                    have hmb : cnt b * 2 ^ o % (sumN cnt 64) < 100000 := Nat.lt_of_lt_of_le (Nat.mod_lt _ ht0) htb
                    rw [hr] at hstep
                    dsimp only at hstep
                    refine WX.s1 rfl rfl ?_
                    refine WX.s1 rfl rfl ?_
                    refine WX.icmp rfl (fun c_107 => absurd c_107 (fun zz_ => absurd ((nI_leI (a := 64) (b := i) (by omega) (by omega)).mp zz_) (Nat.not_le.mpr (by omega)))) (fun c_107 => ?_)
                    clear c_107
                    refine WX.s1 rfl rfl ?_
                    refine WX.mget rfl hm M_hL rfl ?_
                    refine WX.s1 rfl rfl ?_
                    refine WX.mald (c := 30) rfl hm M_hL (by decide) (by decide) (by decide) (by decide) (vp_in_nI (N := 64) (by omega) (by decide)) ?_
                    rw [nI_clamp (by omega), h30 i (by omega)]
                    refine WX.if_ rfl (fun c_117 => ?_) (fun c_117 => ?_)
                    · skip
                      refine WX.s1 (L' := [(0, .ref m), (1, .int (nI (sumN cnt 64))), (2, .int (nI o)), (3, .int (nI (c - j))), (4, .int (nI b)), (5, .int ((nI i) + 1))]) rfl rfl ?_
                      rw [show ((nI i) + 1) = nI (i + 1) from nI_add i 1]
                      refine WX.s1 rfl rfl ?_
                      have hz : rpick (pickO uj rj (i + 1)) hd = some b := by
                        rw [hstep]
                        first
                          | exact if_neg (fun z => absurd ((qI_le0 (by omega)).mp c_117) (by omega))
                          | exact if_neg (fun z => n_127 z.2)
                          | (rw [if_pos (show 2 ≤ uj i ∧ hd i = 0 from ⟨Nat.lt_of_not_le (fun z => c_117 ((qI_le0 (by omega)).mpr z)), n_127⟩)]; exact if_neg (Nat.not_lt.mpr n_149))
                      have h9 := ih2 (i + 1) (by omega)
                      rw [hz] at h9
                      exact h9
                    · skip
                      refine WX.s1 rfl rfl ?_
                      refine WX.mget rfl hm M_hL rfl ?_
                      refine WX.s1 rfl rfl ?_
                      refine WX.mzald rfl hm M_hL (vp_in_nI (N := 64) (by omega) (by decide)) ?_
                      rw [nI_clamp (by omega), h32 i (by omega)]
                      refine WX.if_ rfl (fun c_127 => ?_) (fun c_127 => ?_)
                      · skip
                        have n_127 : ¬ (hd i) = 0 := fun zz_ => c_127 ((nI_eq (a := hd i) (b := 0) (by omega) (by omega)).mpr zz_)
                        refine WX.s1 (L' := [(0, .ref m), (1, .int (nI (sumN cnt 64))), (2, .int (nI o)), (3, .int (nI (c - j))), (4, .int (nI b)), (5, .int ((nI i) + 1))]) rfl rfl ?_
                        rw [show ((nI i) + 1) = nI (i + 1) from nI_add i 1]
                        refine WX.s1 rfl rfl ?_
                        have hz : rpick (pickO uj rj (i + 1)) hd = some b := by
                          rw [hstep]
                          first
                            | exact if_neg (fun z => absurd ((qI_le0 (by omega)).mp c_117) (by omega))
                            | exact if_neg (fun z => n_127 z.2)
                            | (rw [if_pos (show 2 ≤ uj i ∧ hd i = 0 from ⟨Nat.lt_of_not_le (fun z => c_117 ((qI_le0 (by omega)).mpr z)), n_127⟩)]; exact if_neg (Nat.not_lt.mpr n_149))
                        have h9 := ih2 (i + 1) (by omega)
                        rw [hz] at h9
                        exact h9
                      · skip
                        have n_127 : (hd i) = 0 := (nI_eq (a := hd i) (b := 0) (by omega) (by omega)).mp (Classical.not_not.mp c_127)
                        refine WX.s1 rfl rfl ?_
                        refine WX.if_ rfl (fun c_132 => absurd c_132 (nI_pos (by omega))) (fun c_132 => ?_)
                        refine WX.s1 rfl rfl ?_
                        refine WX.mget rfl hm M_hL rfl ?_
                        refine WX.s1 rfl rfl ?_
                        refine WX.mald (c := 31) rfl hm M_hL (by decide) (by decide) (by decide) (by decide) (vp_in_nI (N := 64) (by omega) (by decide)) ?_
                        rw [nI_clamp (by omega), h31 i (by omega)]
                        refine WX.s1 rfl rfl ?_
                        refine WX.mget rfl hm M_hL rfl ?_
                        refine WX.s1 rfl rfl ?_
                        refine WX.mald (c := 31) rfl hm M_hL (by decide) (by decide) (by decide) (by decide) (vp_in_nI (N := 64) (by omega) (by decide)) ?_
                        rw [nI_clamp (by omega), h31 b (by omega)]
                        refine WX.icmp rfl (fun c_149 => ?_) (fun c_149 => ?_)
                        · skip
                          have n_149 : (cnt i * 2 ^ o % (sumN cnt 64)) ≤ (cnt b * 2 ^ o % (sumN cnt 64)) := (nI_leI (a := cnt i * 2 ^ o % (sumN cnt 64)) (b := cnt b * 2 ^ o % (sumN cnt 64)) (by omega) (by omega)).mp c_149
                          refine WX.s1 (L' := [(0, .ref m), (1, .int (nI (sumN cnt 64))), (2, .int (nI o)), (3, .int (nI (c - j))), (4, .int (nI b)), (5, .int ((nI i) + 1))]) rfl rfl ?_
                          rw [show ((nI i) + 1) = nI (i + 1) from nI_add i 1]
                          refine WX.s1 rfl rfl ?_
                          have hz : rpick (pickO uj rj (i + 1)) hd = some b := by
                            rw [hstep]
                            first
                              | exact if_neg (fun z => absurd ((qI_le0 (by omega)).mp c_117) (by omega))
                              | exact if_neg (fun z => n_127 z.2)
                              | (rw [if_pos (show 2 ≤ uj i ∧ hd i = 0 from ⟨Nat.lt_of_not_le (fun z => c_117 ((qI_le0 (by omega)).mpr z)), n_127⟩)]; exact if_neg (Nat.not_lt.mpr n_149))
                          have h9 := ih2 (i + 1) (by omega)
                          rw [hz] at h9
                          exact h9
                        · skip
                          have n_149 : (cnt b * 2 ^ o % (sumN cnt 64)) < (cnt i * 2 ^ o % (sumN cnt 64)) := Nat.lt_of_not_le (fun zz_ => c_149 ((nI_leI (a := cnt i * 2 ^ o % (sumN cnt 64)) (b := cnt b * 2 ^ o % (sumN cnt 64)) (by omega) (by omega)).mpr zz_))
                          refine WX.s1 rfl rfl ?_
                          refine WX.s1 (L' := [(0, .ref m), (1, .int (nI (sumN cnt 64))), (2, .int (nI o)), (3, .int (nI (c - j))), (4, .int (nI i)), (5, .int (nI i))]) rfl rfl ?_
                          refine WX.s1 (L' := [(0, .ref m), (1, .int (nI (sumN cnt 64))), (2, .int (nI o)), (3, .int (nI (c - j))), (4, .int (nI i)), (5, .int ((nI i) + 1))]) rfl rfl ?_
                          rw [show ((nI i) + 1) = nI (i + 1) from nI_add i 1]
                          refine WX.s1 rfl rfl ?_
                          have hz : rpick (pickO uj rj (i + 1)) hd = some i := by
                            rw [hstep]
                            rw [if_pos (show 2 ≤ uj i ∧ hd i = 0 from ⟨Nat.lt_of_not_le (fun z => c_117 ((qI_le0 (by omega)).mpr z)), n_127⟩)]
                            exact if_pos n_149
                          have h9 := ih2 (i + 1) (by omega)
                          rw [hz] at h9
                          exact h9
              exact in_ 64 0 (by omega)
        refine lpB (2 * c + 1) 0 0 (fun _ => 0) hL AL (by split <;> omega) (Nat.zero_le _) FR_hL M_hL FA_AL (fun s hs => (hP s hs).1) (fun s hs => (hP s hs).2.1) (fun s hs => (hP s hs).2.2) (fun s hs => ⟨Nat.mod_lt _ ht0, Nat.zero_le _, fun _ => ?_⟩)
        show ((cnt s * 2 ^ o % (sumN cnt 64) : Nat) : Int) = ((cnt s * 2 ^ o % (sumN cnt 64) : Nat) : Int) - _ * ((0 + 0 : Nat) : Int)
        simp
      · have hge : 2 ^ o ≤ mSum (u0F cnt (sumN cnt 64) o) 64 := by omega
        have lpC : ∀ (tt j : Nat) (hL : Nat → aE) (AL : Nat → Nat → Int32), j + tt = mSum (u0F cnt (sumN cnt 64) o) 64 - 2 ^ o → Fr h hL (inM m) → MAt hL m I AL LN → FaS AR AL (fun b => b = 30 ∨ b = 31 ∨ b = 32) → (∀ s, s < 64 → AL 30 s = qI ((twN 64 (u0F cnt (sumN cnt 64) o) j) s)) → WX (lk tX12_divide) (mM (d + 1)) Ψ 219 [(0, .ref m), (1, .int (nI (sumN cnt 64))), (2, .int (nI o)), (3, .int (nI (2 ^ o) - nI (mSum (u0F cnt (sumN cnt 64) o) 64 - j)))] [] (n, s, hL) := by
          clear M_hL FR_hL FA_AL hP
          intro tt
          induction tt with
          | zero =>
            intro j hL AL hj FR_hL M_hL FA_AL h30
            refine WX.s1 rfl rfl ?_
            refine WX.if_ rfl (fun c_220 => ?_) (fun c_220 => absurd ((lk_ge (by omega) (by omega)).mpr (by omega)) c_220)
            refine WX.ret0 rfl (kk hL AL FR_hL M_hL FA_AL (fun s hs => ?_))
            rw [h30 s hs]
            unfold wU
            rw [if_neg hlt, show mSum (u0F cnt (sumN cnt 64) o) 64 - 2 ^ o = j by omega]
          | succ tt ih =>
            intro j hL AL hj FR_hL M_hL FA_AL h30
            obtain ⟨i1, i2, -, i4, -⟩ := tw_inv (u := (u0F cnt (sumN cnt 64) o)) (N := 64) (M := 2 ^ o) (by omega) (by rw [u0_sum ht0]; exact hnz) j (by omega)
            have hbg := ex_big (u := (twN 64 (u0F cnt (sumN cnt 64) o) j)) (N := 64) (by rw [i1, i2, u0_sum ht0]; omega)
            have hub : ∀ s, s < 64 → (twN 64 (u0F cnt (sumN cnt 64) o) j) s ≤ 10000 := fun s hs => by have := i4 s; have := hu0 s hs; omega
            have hgn : twN 64 (u0F cnt (sumN cnt 64) o) (j + 1) = twS 64 (twN 64 (u0F cnt (sumN cnt 64) o) j) := rfl
            generalize hg : (twN 64 (u0F cnt (sumN cnt 64) o) j) = uj at h30 hbg hub hgn
            refine WX.s1 rfl rfl ?_
            refine WX.if_ rfl (fun c_220 => absurd c_220 (fun z => absurd ((lk_ge (by omega) (by omega)).mp z) (by omega))) (fun c_220 => ?_)
            refine WX.s1 rfl rfl ?_
            refine WX.s1 (L' := [(0, .ref m), (1, .int (nI (sumN cnt 64))), (2, .int (nI o)), (3, .int (nI (2 ^ o) - nI (mSum (u0F cnt (sumN cnt 64) o) 64 - j))), (4, .int 0)]) rfl rfl ?_
            refine WX.s1 rfl rfl ?_
            refine WX.s1 (L' := [(0, .ref m), (1, .int (nI (sumN cnt 64))), (2, .int (nI o)), (3, .int (nI (2 ^ o) - nI (mSum (u0F cnt (sumN cnt 64) o) 64 - j))), (4, .int 0), (5, .int 1)]) rfl rfl ?_
            have in_ : ∀ (t2 i : Nat), i + t2 = 64 → 1 ≤ i → WX (lk tX12_divide) (mM (d + 1)) Ψ 229 [(0, .ref m), (1, .int (nI (sumN cnt 64))), (2, .int (nI o)), (3, .int (nI (2 ^ o) - nI (mSum (u0F cnt (sumN cnt 64) o) 64 - j))), (4, .int (nI (mxO uj i))), (5, .int (nI i))] [] (n, s, hL) := by
              intro t2
              induction t2 with
              | zero =>
                intro i hi hi1
                have hmx := mx_lt (u := uj) (N := i) (by omega)
                obtain rfl : i = 64 := by omega
                refine WX.s1 rfl rfl ?_
                refine WX.s1 rfl rfl ?_
                refine WX.icmp rfl (fun c_233 => ?_) (fun c_233 => absurd ((nI_leI (a := 64) (b := 64) (by omega) (by omega)).mpr (by omega)) c_233)
                clear c_233
                refine WX.s1 rfl rfl ?_
                refine WX.mget rfl hm M_hL rfl ?_
                refine WX.s1 rfl rfl ?_
                refine WX.s1 rfl rfl ?_
                refine WX.mald (c := 30) rfl hm M_hL (by decide) (by decide) (by decide) (by decide) (vp_in_nI (N := 64) (by omega) (by decide)) ?_
                rw [nI_clamp (by omega), h30 _ (by omega)]
                refine WX.s1 rfl rfl ?_
                refine WX.s1 (S' := [.int ((qI (uj (mxO uj 64))) - 1), .int (nI (mxO uj 64)), .ref (m + 30)]) rfl rfl ?_
                rw [qI_dcr (by omega)]
                refine WX.mast (c := 30) rfl hm M_hL (by decide) (by decide) (by decide) (by decide) (vp_in_nI (N := 64) (by omega) (by decide)) (fun h278n4 A278n4 e_A278n4 M_h278n4 frh278n4 => ?_)
                try dsimp only at e_A278n4
                have FR_h278n4 := FR_hL.ztr frh278n4
                clear M_hL FR_hL frh278n4
                refine WX.s1 (L' := [(0, .ref m), (1, .int (nI (sumN cnt 64))), (2, .int (nI o)), (3, .int ((nI (2 ^ o) - nI (mSum (u0F cnt (sumN cnt 64) o) 64 - j)) + 1)), (4, .int (nI (mxO uj 64))), (5, .int (nI 64))]) rfl rfl ?_
                refine WX.s1 rfl rfl ?_
                refine WX.keep (y := 169) [0, 1, 2, 3] (show ([0, 1, 2, 3, 4, 5] : List Nat).Nodup by decide) rfl ?_
                rw [show (nI (2 ^ o) - nI (mSum (u0F cnt (sumN cnt 64) o) 64 - j)) + 1 = nI (2 ^ o) - nI (mSum (u0F cnt (sumN cnt 64) o) 64 - (j + 1)) from (lk_inc (by omega)).trans (by rw [show mSum (u0F cnt (sumN cnt 64) o) 64 - j - 1 = mSum (u0F cnt (sumN cnt 64) o) 64 - (j + 1) by omega])]
                rw [nI_clamp (by omega)] at e_A278n4
                refine ih (j + 1) h278n4 A278n4 (by omega) FR_h278n4 M_h278n4 (FA_AL.ast e_A278n4 (by decide)) (fun s hs => ?_)
                rw [hgn, e_A278n4, upA_same]
                unfold twS
                by_cases z : s = mxO uj 64
                · rw [z, pk_us, updN_s]
                · rw [pk_un z, updN_n z]; exact h30 s hs
              | succ t2 ih2 =>
                intro i hi hi1
                have hmx := mx_lt (u := uj) (N := i) (by omega)
                have hu1 := hub i (by omega)
                have hu2 := hub (mxO uj i) (by omega)
                have hstep : mxO uj (i + 1) = if uj (mxO uj i) < uj i then i else mxO uj i := rfl
                refine WX.s1 rfl rfl ?_
                refine WX.s1 rfl rfl ?_
                refine WX.icmp rfl (fun c_233 => absurd c_233 (fun zz_ => absurd ((nI_leI (a := 64) (b := i) (by omega) (by omega)).mp zz_) (Nat.not_le.mpr (by omega)))) (fun c_233 => ?_)
                clear c_233
                refine WX.s1 rfl rfl ?_
                refine WX.mget rfl hm M_hL rfl ?_
                refine WX.s1 rfl rfl ?_
                refine WX.mald (c := 30) rfl hm M_hL (by decide) (by decide) (by decide) (by decide) (vp_in_nI (N := 64) (by omega) (by decide)) ?_
                rw [nI_clamp (by omega), h30 i (by omega)]
                refine WX.s1 rfl rfl ?_
                refine WX.mget rfl hm M_hL rfl ?_
                refine WX.s1 rfl rfl ?_
                refine WX.mald (c := 30) rfl hm M_hL (by decide) (by decide) (by decide) (by decide) (vp_in_nI (N := 64) (by omega) (by decide)) ?_
                rw [nI_clamp (by omega), h30 _ (by omega)]
                refine WX.icmp rfl (fun c_250 => ?_) (fun c_250 => ?_)
                · skip
                  refine WX.s1 rfl rfl ?_
                  refine WX.s1 (L' := [(0, .ref m), (1, .int (nI (sumN cnt 64))), (2, .int (nI o)), (3, .int (nI (2 ^ o) - nI (mSum (u0F cnt (sumN cnt 64) o) 64 - j))), (4, .int (nI (mxO uj i))), (5, .int (nI i))]) rfl rfl ?_
                  refine WX.s1 (L' := [(0, .ref m), (1, .int (nI (sumN cnt 64))), (2, .int (nI o)), (3, .int (nI (2 ^ o) - nI (mSum (u0F cnt (sumN cnt 64) o) 64 - j))), (4, .int (nI (mxO uj i))), (5, .int ((nI i) + 1))]) rfl rfl ?_
                  rw [show ((nI i) + 1) = nI (i + 1) from nI_add i 1]
                  refine WX.s1 rfl rfl ?_
                  have hz : mxO uj (i + 1) = mxO uj i := by
                    rw [hstep]
                    exact if_neg (fun z => absurd ((qI_leI (by omega) (by omega)).mp c_250) (by omega))
                  have h9 := ih2 (i + 1) (by omega) (by omega)
                  rw [hz] at h9
                  exact h9
                · skip
                  refine WX.s1 rfl rfl ?_
                  refine WX.s1 rfl rfl ?_
                  refine WX.s1 (L' := [(0, .ref m), (1, .int (nI (sumN cnt 64))), (2, .int (nI o)), (3, .int (nI (2 ^ o) - nI (mSum (u0F cnt (sumN cnt 64) o) 64 - j))), (4, .int (nI i)), (5, .int (nI i))]) rfl rfl ?_
                  refine WX.s1 (L' := [(0, .ref m), (1, .int (nI (sumN cnt 64))), (2, .int (nI o)), (3, .int (nI (2 ^ o) - nI (mSum (u0F cnt (sumN cnt 64) o) 64 - j))), (4, .int (nI i)), (5, .int ((nI i) + 1))]) rfl rfl ?_
                  rw [show ((nI i) + 1) = nI (i + 1) from nI_add i 1]
                  refine WX.s1 rfl rfl ?_
                  have hz : mxO uj (i + 1) = i := by
                    rw [hstep]
                    exact if_pos (Nat.lt_of_not_le (fun z => c_250 ((qI_leI (by omega) (by omega)).mpr z)))
                  have h9 := ih2 (i + 1) (by omega) (by omega)
                  rw [hz] at h9
                  exact h9
            have e1 : mxO uj 1 = 0 := by show (if uj 0 < uj 0 then 0 else 0) = 0; exact if_neg (Nat.lt_irrefl _)
            have h9 := in_ 63 1 (by omega) (Nat.le_refl _)
            rw [e1] at h9
            exact h9
        refine WX.s1 rfl rfl ?_
        refine WX.if_ rfl (fun _ => ?_) (fun c => absurd ((lk_le (by omega) (by omega)).mpr hge) c)
        have h9 := lpC (mSum (u0F cnt (sumN cnt 64) o) 64 - 2 ^ o) 0 hL AL (by omega) FR_hL M_hL FA_AL (fun s hs => (hP s hs).1)
        rw [Nat.sub_zero] at h9
        exact h9
    | succ tt ih =>
      intro i hL AL hi FR_hL M_hL FA_AL hP
      have hSi := hS i (by omega)
      have hci := sumN_get cnt (show i < 64 by omega)
      have hcb : cnt i * 2 ^ o ≤ 100000 * 2 ^ 9 := Nat.mul_le_mul (by omega) h2o
      have hz0 : cnt i * 2 ^ o = 0 ↔ cnt i = 0 := by rw [Nat.mul_eq_zero]; omega
      refine WX.s1 rfl rfl ?_
      refine WX.s1 rfl rfl ?_
      refine WX.icmp rfl (fun c_11 => absurd c_11 (fun zz_ => absurd ((nI_leI (a := 64) (b := i) (by omega) (by omega)).mp zz_) (Nat.not_le.mpr (by omega)))) (fun c_11 => ?_)
      clear c_11
      refine WX.s1 rfl rfl ?_
      refine WX.mget rfl hm M_hL rfl ?_
      refine WX.s1 rfl rfl ?_
      refine WX.mald (c := 33) rfl hm M_hL (by decide) (by decide) (by decide) (by decide) (vp_in_nI (N := 256) (by omega) (by decide)) ?_
      rw [nI_clamp (by omega), FA_AL 33 (by decide), hcA i (by omega)]
      refine WX.s1 rfl rfl ?_
      refine WX.s1 (S' := [.int ((nI (cnt i)) <<< ((nI o) &&& 31))]) rfl rfl ?_
      rw [shlo (by omega) ho]
      refine WX.s1 (L' := [(0, .ref m), (1, .int (nI (sumN cnt 64))), (2, .int (nI o)), (3, .int (nI (2 ^ o) - nI (sumN (fun s => massU ((u0F cnt (sumN cnt 64) o) s)) i))), (4, .int (nI i)), (5, .int (nI (cnt i * 2 ^ o)))]) rfl rfl ?_
      refine WX.s1 rfl rfl ?_
      refine WX.mget rfl hm M_hL rfl ?_
      refine WX.s1 rfl rfl ?_
      refine WX.s1 rfl rfl ?_
      refine WX.if_ rfl (fun c_33 => ?_) (fun c_33 => ?_)
      · skip
        have n_33 : ¬ (cnt i * 2 ^ o) = 0 := fun zz_ => c_33 ((nI_eq (a := cnt i * 2 ^ o) (b := 0) (by omega) (by omega)).mpr zz_)
        refine WX.s1 rfl rfl ?_
        refine WX.s1 rfl rfl ?_
        refine WX.icmp rfl (fun c_43 => ?_) (fun c_43 => ?_)
        · skip
          have n_43 : (sumN cnt 64) ≤ (cnt i * 2 ^ o) := (nI_leI (a := sumN cnt 64) (b := cnt i * 2 ^ o) (by omega) (by omega)).mp c_43
          refine WX.s1 rfl rfl ?_
          refine WX.s1 rfl rfl ?_
          refine WX.div rfl (nI_ne0 ht0 (by omega)) ?_
          rw [pk_div (by omega) ht0 (by omega)]
          have hval : (nI (cnt i * 2 ^ o / (sumN cnt 64))) = qI ((u0F cnt (sumN cnt 64) o) i) := by
            unfold u0F
            rw [if_neg (fun z => n_33 (hz0.mpr z)), if_neg (by omega), qIs]
          refine WX.mast (c := 30) rfl hm M_hL (by decide) (by decide) (by decide) (by decide) (vp_in_nI (N := 64) (by omega) (by decide)) (fun h54n5 A54n5 e_A54n5 M_h54n5 frh54n5 => ?_)
          try dsimp only at e_A54n5
          have FR_h54n5 := FR_hL.ztr frh54n5
          clear M_hL FR_hL frh54n5
          refine WX.s1 rfl rfl ?_
          refine WX.mget rfl hm M_h54n5 rfl ?_
          refine WX.s1 rfl rfl ?_
          refine WX.s1 rfl rfl ?_
          refine WX.s1 rfl rfl ?_
          refine WX.div rfl (nI_ne0 ht0 (by omega)) ?_
          rw [pk_rem (by omega) ht0 (by omega)]
          refine WX.mast (c := 31) rfl hm M_h54n5 (by decide) (by decide) (by decide) (by decide) (vp_in_nI (N := 64) (by omega) (by decide)) (fun h65n6 A65n6 e_A65n6 M_h65n6 frh65n6 => ?_)
          try dsimp only at e_A65n6
          have FR_h65n6 := FR_h54n5.ztr frh65n6
          clear M_h54n5 FR_h54n5 frh65n6
          refine WX.s1 rfl rfl ?_
          refine WX.mget rfl hm M_h65n6 rfl ?_
          refine WX.s1 rfl rfl ?_
          refine WX.s1 rfl rfl ?_
          refine WX.mzast rfl hm M_h65n6 (vp_in_nI (N := 64) (by omega) (by decide)) (fun h73n7 A73n7 e_A73n7 M_h73n7 frh73n7 => ?_)
          try dsimp only at e_A73n7
          have FR_h73n7 := FR_h65n6.ztr frh73n7
          clear M_h65n6 FR_h65n6 frh73n7
          refine WX.s1 rfl rfl ?_
          refine WX.s1 rfl rfl ?_
          refine WX.mget rfl hm M_h73n7 rfl ?_
          refine WX.s1 rfl rfl ?_
          refine WX.mald (c := 30) rfl hm M_h73n7 (by decide) (by decide) (by decide) (by decide) (vp_in_nI (N := 64) (by omega) (by decide)) ?_
          rw [nI_clamp (by omega)]
          rw [nI_clamp (by omega)] at e_A54n5
          rw [nI_clamp (by omega)] at e_A65n6
          rw [nI_clamp (by omega)] at e_A73n7
          rw [e_A73n7, upA_ne (by decide), e_A65n6, upA_ne (by decide), e_A54n5, upA_same, pk_us, hval]
          refine WX.callC (vs := [.int (qI ((u0F cnt (sumN cnt 64) o) i))]) rfl rfl rfl (Nat.le_of_ble_eq_true rfl) rfl ?_
          refine m_mass (by have := hu0 i (by omega); omega) ?_
          show WX _ _ _ 85 [(0, .ref m), (1, .int (nI (sumN cnt 64))), (2, .int (nI o)), (3, .int (nI (2 ^ o) - nI (sumN (fun s => massU ((u0F cnt (sumN cnt 64) o) s)) i))), (4, .int (nI i)), (5, .int (nI (cnt i * 2 ^ o)))] [.int (nI (massU ((u0F cnt (sumN cnt 64) o) i))), .int (nI (2 ^ o) - nI (sumN (fun s => massU ((u0F cnt (sumN cnt 64) o) s)) i))] (n, s, h73n7)
          refine WX.s1 (S' := [.int ((nI (2 ^ o) - nI (sumN (fun s => massU ((u0F cnt (sumN cnt 64) o) s)) i)) - (nI (massU ((u0F cnt (sumN cnt 64) o) i))))]) rfl rfl ?_
          rw [lk_step]
          refine WX.s1 (L' := [(0, .ref m), (1, .int (nI (sumN cnt 64))), (2, .int (nI o)), (3, .int (nI (2 ^ o) - nI ((sumN (fun s => massU ((u0F cnt (sumN cnt 64) o) s)) i) + massU ((u0F cnt (sumN cnt 64) o) i)))), (4, .int (nI i)), (5, .int (nI (cnt i * 2 ^ o)))]) rfl rfl ?_
          refine WX.s1 (L' := [(0, .ref m), (1, .int (nI (sumN cnt 64))), (2, .int (nI o)), (3, .int (nI (2 ^ o) - nI ((sumN (fun s => massU ((u0F cnt (sumN cnt 64) o) s)) i) + massU ((u0F cnt (sumN cnt 64) o) i)))), (4, .int ((nI i) + 1)), (5, .int (nI (cnt i * 2 ^ o)))]) rfl rfl ?_
          rw [show ((nI i) + 1) = nI (i + 1) from nI_add i 1]
          refine WX.s1 rfl rfl ?_
          refine WX.keep (y := 169) [0, 1, 2, 3, 4] (show ([0, 1, 2, 3, 4, 5] : List Nat).Nodup by decide) rfl ?_
          refine ih (i + 1) h73n7 A73n7 (by omega) FR_h73n7 M_h73n7 (((FA_AL.ast e_A54n5 (by decide)).ast e_A65n6 (by decide)).ast e_A73n7 (by decide)) (fun s hs => ?_)
          rw [hval] at e_A54n5
          by_cases z : s = i
          · subst z; simp [e_A73n7, e_A65n6, e_A54n5, upA, upd]
          · have := hP s (by omega); simp [e_A73n7, e_A65n6, e_A54n5, upA, upd, z]; exact this
        · skip
          have n_43 : (cnt i * 2 ^ o) < (sumN cnt 64) := Nat.lt_of_not_le (fun zz_ => c_43 ((nI_leI (a := sumN cnt 64) (b := cnt i * 2 ^ o) (by omega) (by omega)).mpr zz_))
          refine WX.s1 rfl rfl ?_
          refine WX.s1 rfl rfl ?_
          have hval : (-1 : Int32) = qI ((u0F cnt (sumN cnt 64) o) i) := by
            unfold u0F
            rw [if_neg (fun z => n_33 (hz0.mpr z)), if_pos n_43]
            rfl
          refine WX.mast (c := 30) rfl hm M_hL (by decide) (by decide) (by decide) (by decide) (vp_in_nI (N := 64) (by omega) (by decide)) (fun h54n8 A54n8 e_A54n8 M_h54n8 frh54n8 => ?_)
          try dsimp only at e_A54n8
          have FR_h54n8 := FR_hL.ztr frh54n8
          clear M_hL FR_hL frh54n8
          refine WX.s1 rfl rfl ?_
          refine WX.mget rfl hm M_h54n8 rfl ?_
          refine WX.s1 rfl rfl ?_
          refine WX.s1 rfl rfl ?_
          refine WX.s1 rfl rfl ?_
          refine WX.div rfl (nI_ne0 ht0 (by omega)) ?_
          rw [pk_rem (by omega) ht0 (by omega)]
          refine WX.mast (c := 31) rfl hm M_h54n8 (by decide) (by decide) (by decide) (by decide) (vp_in_nI (N := 64) (by omega) (by decide)) (fun h65n9 A65n9 e_A65n9 M_h65n9 frh65n9 => ?_)
          try dsimp only at e_A65n9
          have FR_h65n9 := FR_h54n8.ztr frh65n9
          clear M_h54n8 FR_h54n8 frh65n9
          refine WX.s1 rfl rfl ?_
          refine WX.mget rfl hm M_h65n9 rfl ?_
          refine WX.s1 rfl rfl ?_
          refine WX.s1 rfl rfl ?_
          refine WX.mzast rfl hm M_h65n9 (vp_in_nI (N := 64) (by omega) (by decide)) (fun h73n10 A73n10 e_A73n10 M_h73n10 frh73n10 => ?_)
          try dsimp only at e_A73n10
          have FR_h73n10 := FR_h65n9.ztr frh73n10
          clear M_h65n9 FR_h65n9 frh73n10
          refine WX.s1 rfl rfl ?_
          refine WX.s1 rfl rfl ?_
          refine WX.mget rfl hm M_h73n10 rfl ?_
          refine WX.s1 rfl rfl ?_
          refine WX.mald (c := 30) rfl hm M_h73n10 (by decide) (by decide) (by decide) (by decide) (vp_in_nI (N := 64) (by omega) (by decide)) ?_
          rw [nI_clamp (by omega)]
          rw [nI_clamp (by omega)] at e_A54n8
          rw [nI_clamp (by omega)] at e_A65n9
          rw [nI_clamp (by omega)] at e_A73n10
          rw [e_A73n10, upA_ne (by decide), e_A65n9, upA_ne (by decide), e_A54n8, upA_same, pk_us, hval]
          refine WX.callC (vs := [.int (qI ((u0F cnt (sumN cnt 64) o) i))]) rfl rfl rfl (Nat.le_of_ble_eq_true rfl) rfl ?_
          refine m_mass (by have := hu0 i (by omega); omega) ?_
          show WX _ _ _ 85 [(0, .ref m), (1, .int (nI (sumN cnt 64))), (2, .int (nI o)), (3, .int (nI (2 ^ o) - nI (sumN (fun s => massU ((u0F cnt (sumN cnt 64) o) s)) i))), (4, .int (nI i)), (5, .int (nI (cnt i * 2 ^ o)))] [.int (nI (massU ((u0F cnt (sumN cnt 64) o) i))), .int (nI (2 ^ o) - nI (sumN (fun s => massU ((u0F cnt (sumN cnt 64) o) s)) i))] (n, s, h73n10)
          refine WX.s1 (S' := [.int ((nI (2 ^ o) - nI (sumN (fun s => massU ((u0F cnt (sumN cnt 64) o) s)) i)) - (nI (massU ((u0F cnt (sumN cnt 64) o) i))))]) rfl rfl ?_
          rw [lk_step]
          refine WX.s1 (L' := [(0, .ref m), (1, .int (nI (sumN cnt 64))), (2, .int (nI o)), (3, .int (nI (2 ^ o) - nI ((sumN (fun s => massU ((u0F cnt (sumN cnt 64) o) s)) i) + massU ((u0F cnt (sumN cnt 64) o) i)))), (4, .int (nI i)), (5, .int (nI (cnt i * 2 ^ o)))]) rfl rfl ?_
          refine WX.s1 (L' := [(0, .ref m), (1, .int (nI (sumN cnt 64))), (2, .int (nI o)), (3, .int (nI (2 ^ o) - nI ((sumN (fun s => massU ((u0F cnt (sumN cnt 64) o) s)) i) + massU ((u0F cnt (sumN cnt 64) o) i)))), (4, .int ((nI i) + 1)), (5, .int (nI (cnt i * 2 ^ o)))]) rfl rfl ?_
          rw [show ((nI i) + 1) = nI (i + 1) from nI_add i 1]
          refine WX.s1 rfl rfl ?_
          refine WX.keep (y := 169) [0, 1, 2, 3, 4] (show ([0, 1, 2, 3, 4, 5] : List Nat).Nodup by decide) rfl ?_
          refine ih (i + 1) h73n10 A73n10 (by omega) FR_h73n10 M_h73n10 (((FA_AL.ast e_A54n8 (by decide)).ast e_A65n9 (by decide)).ast e_A73n10 (by decide)) (fun s hs => ?_)
          rw [hval] at e_A54n8
          by_cases z : s = i
          · subst z; simp [e_A73n10, e_A65n9, e_A54n8, upA, upd]
          · have := hP s (by omega); simp [e_A73n10, e_A65n9, e_A54n8, upA, upd, z]; exact this
      · skip
        have n_33 : (cnt i * 2 ^ o) = 0 := (nI_eq (a := cnt i * 2 ^ o) (b := 0) (by omega) (by omega)).mp (Classical.not_not.mp c_33)
        refine WX.s1 rfl rfl ?_
        refine WX.s1 rfl rfl ?_
        have hval : (0 : Int32) = qI ((u0F cnt (sumN cnt 64) o) i) := by
          unfold u0F
          rw [if_pos (hz0.mp n_33)]
          rfl
        refine WX.mast (c := 30) rfl hm M_hL (by decide) (by decide) (by decide) (by decide) (vp_in_nI (N := 64) (by omega) (by decide)) (fun h54n11 A54n11 e_A54n11 M_h54n11 frh54n11 => ?_)
        try dsimp only at e_A54n11
        have FR_h54n11 := FR_hL.ztr frh54n11
        clear M_hL FR_hL frh54n11
        refine WX.s1 rfl rfl ?_
        refine WX.mget rfl hm M_h54n11 rfl ?_
        refine WX.s1 rfl rfl ?_
        refine WX.s1 rfl rfl ?_
        refine WX.s1 rfl rfl ?_
        refine WX.div rfl (nI_ne0 ht0 (by omega)) ?_
        rw [pk_rem (by omega) ht0 (by omega)]
        refine WX.mast (c := 31) rfl hm M_h54n11 (by decide) (by decide) (by decide) (by decide) (vp_in_nI (N := 64) (by omega) (by decide)) (fun h65n12 A65n12 e_A65n12 M_h65n12 frh65n12 => ?_)
        try dsimp only at e_A65n12
        have FR_h65n12 := FR_h54n11.ztr frh65n12
        clear M_h54n11 FR_h54n11 frh65n12
        refine WX.s1 rfl rfl ?_
        refine WX.mget rfl hm M_h65n12 rfl ?_
        refine WX.s1 rfl rfl ?_
        refine WX.s1 rfl rfl ?_
        refine WX.mzast rfl hm M_h65n12 (vp_in_nI (N := 64) (by omega) (by decide)) (fun h73n13 A73n13 e_A73n13 M_h73n13 frh73n13 => ?_)
        try dsimp only at e_A73n13
        have FR_h73n13 := FR_h65n12.ztr frh73n13
        clear M_h65n12 FR_h65n12 frh73n13
        refine WX.s1 rfl rfl ?_
        refine WX.s1 rfl rfl ?_
        refine WX.mget rfl hm M_h73n13 rfl ?_
        refine WX.s1 rfl rfl ?_
        refine WX.mald (c := 30) rfl hm M_h73n13 (by decide) (by decide) (by decide) (by decide) (vp_in_nI (N := 64) (by omega) (by decide)) ?_
        rw [nI_clamp (by omega)]
        rw [nI_clamp (by omega)] at e_A54n11
        rw [nI_clamp (by omega)] at e_A65n12
        rw [nI_clamp (by omega)] at e_A73n13
        rw [e_A73n13, upA_ne (by decide), e_A65n12, upA_ne (by decide), e_A54n11, upA_same, pk_us, hval]
        refine WX.callC (vs := [.int (qI ((u0F cnt (sumN cnt 64) o) i))]) rfl rfl rfl (Nat.le_of_ble_eq_true rfl) rfl ?_
        refine m_mass (by have := hu0 i (by omega); omega) ?_
        show WX _ _ _ 85 [(0, .ref m), (1, .int (nI (sumN cnt 64))), (2, .int (nI o)), (3, .int (nI (2 ^ o) - nI (sumN (fun s => massU ((u0F cnt (sumN cnt 64) o) s)) i))), (4, .int (nI i)), (5, .int (nI (cnt i * 2 ^ o)))] [.int (nI (massU ((u0F cnt (sumN cnt 64) o) i))), .int (nI (2 ^ o) - nI (sumN (fun s => massU ((u0F cnt (sumN cnt 64) o) s)) i))] (n, s, h73n13)
        refine WX.s1 (S' := [.int ((nI (2 ^ o) - nI (sumN (fun s => massU ((u0F cnt (sumN cnt 64) o) s)) i)) - (nI (massU ((u0F cnt (sumN cnt 64) o) i))))]) rfl rfl ?_
        rw [lk_step]
        refine WX.s1 (L' := [(0, .ref m), (1, .int (nI (sumN cnt 64))), (2, .int (nI o)), (3, .int (nI (2 ^ o) - nI ((sumN (fun s => massU ((u0F cnt (sumN cnt 64) o) s)) i) + massU ((u0F cnt (sumN cnt 64) o) i)))), (4, .int (nI i)), (5, .int (nI (cnt i * 2 ^ o)))]) rfl rfl ?_
        refine WX.s1 (L' := [(0, .ref m), (1, .int (nI (sumN cnt 64))), (2, .int (nI o)), (3, .int (nI (2 ^ o) - nI ((sumN (fun s => massU ((u0F cnt (sumN cnt 64) o) s)) i) + massU ((u0F cnt (sumN cnt 64) o) i)))), (4, .int ((nI i) + 1)), (5, .int (nI (cnt i * 2 ^ o)))]) rfl rfl ?_
        rw [show ((nI i) + 1) = nI (i + 1) from nI_add i 1]
        refine WX.s1 rfl rfl ?_
        refine WX.keep (y := 169) [0, 1, 2, 3, 4] (show ([0, 1, 2, 3, 4, 5] : List Nat).Nodup by decide) rfl ?_
        refine ih (i + 1) h73n13 A73n13 (by omega) FR_h73n13 M_h73n13 (((FA_AL.ast e_A54n11 (by decide)).ast e_A65n12 (by decide)).ast e_A73n13 (by decide)) (fun s hs => ?_)
        rw [hval] at e_A54n11
        by_cases z : s = i
        · subst z; simp [e_A73n13, e_A65n12, e_A54n11, upA, upd]
        · have := hP s (by omega); simp [e_A73n13, e_A65n12, e_A54n11, upA, upd, z]; exact this
  have h9 := lpA 64 0 h AR (by omega) FR_h M_h FaS.rf (fun s hs => absurd hs (Nat.not_lt_zero s))
  rw [show nI (2 ^ o) - nI (sumN (fun s => massU ((u0F cnt (sumN cnt 64) o) s)) 0) = nI (2 ^ o) from nI_subN (Nat.zero_le _)] at h9
  exact h9
