/-! the reference learns: shares, the whole call -/
set_option maxRecDepth 20000 in
theorem m_lrD {d n s : Nat} {h : Nat → aE} {m : Nat} {I : Nat → Int32} {AR : Nat → Nat → Int32} {LN : Nat → Int64} {id way least : Nat} {l lo ld : List Nat} {T : PkS} {ab : Nat → Nat} {x : Le} {e : Nat} (hm : m + 43 < n) (M_h : MAt h m I AR LN) (hX : RfX I AR id way least l lo ld T ab) (hB : RfB l lo ld) (hL37 : ∀ s, s < 256 → AR 37 s = nI (x.1 s)) (r0 : Rd0 l x e) (K_I_60 : I 60 = (nI (8 * e))) (K_I_61 : I 61 = (nI (8 * (l).length))) {Ψ : Option Value → aH → Prop} (k0 : ∀ k v, RdT l (.inl k) → v = -nI k → ∀ h' I' A', Fr h h' (inM m) → MAt h' m I' A' LN → RfX I' A' id way least l lo ld T ab → Ψ (some (.int v)) (n, s, h')) (k1 : ∀ T2 a, RdT l (.inr (T2, a)) → ∀ h' I' A', Fr h h' (inM m) → MAt h' m I' A' LN → RfX I' A' (wdN l 4 4) way least [] lo (sliceL l a (l).length) T2 ab → Ψ (some (.int (nI ((l).length - a)))) (n, s, h')) : WX (lk tX12_learn) (mM (d + 2)) Ψ 110 [(0, .ref m), (1, .int 1), (2, .int 0)] [] (n, s, h) := by
  have FR_h : Fr h h (inM m) := Fr.rf
  have FI_I : Fi I I (fun f => f = 60) := Fi.rf
  have FA_AR : FaS AR AR (fun b => (13 ≤ b ∧ b ≤ 15) ∨ b = 30) := FaS.rf
  have K_I_1 : I 1 = nI (l).length := hX.1.1
  obtain ⟨hle, hld, hlo, hlb, hlb2⟩ := idP hB
  obtain ⟨-, ⟨sx, hsx1, hsx2⟩, he1, he2⟩ := rdC_ok r0.2
  have h8 := r0.1
  refine WX.s1 rfl rfl ?_
  refine WX.s1 (L' := [(0, .ref m), (1, .int 1), (2, .int 0), (4, .int 0)]) rfl rfl ?_
  refine WX.s1 rfl rfl ?_
  refine WX.s1 rfl rfl ?_
  refine WX.icmp rfl (fun c_116 => absurd c_116 (by decide)) (fun c_116 => ?_)
  clear c_116
  refine WX.s1 rfl rfl ?_
  refine WX.if_ rfl (fun c_121 => absurd c_121 (by decide)) (fun c_121 => ?_)
  clear c_121
  refine WX.s1 rfl rfl ?_
  refine WX.s1 rfl rfl ?_
  refine WX.s1 (L' := [(0, .ref m), (1, .int 1), (2, .int 0), (4, .int 0), (5, .int 1)]) rfl rfl ?_
  refine WX.s1 rfl rfl ?_
  refine WX.s1 rfl rfl ?_
  refine WX.s1 rfl rfl ?_
  refine WX.icmp rfl (fun c_145 => absurd c_145 (by decide)) (fun c_145 => ?_)
  clear c_145
  refine WX.s1 rfl rfl ?_
  refine WX.s1 rfl rfl ?_
  refine WX.s1 rfl rfl ?_
  refine WX.s1 rfl rfl ?_
  refine WX.icmp rfl (fun c_158 => absurd c_158 (by decide)) (fun c_158 => ?_)
  clear c_158
  refine WX.s1 rfl rfl ?_
  refine WX.s1 rfl rfl ?_
  have hF0 : InIs I AR l := ⟨K_I_1, by rw [FA_AR 1 (by decide)]; exact hX.1.2⟩
  refine WX.callC (vs := [.ref m, .int (nI 8), .int (nI 31)]) rfl rfl rfl (Nat.le_of_ble_eq_true rfl) ((M_h).rcv hm) ?_
  refine m_rdSh (d := d) (G := 8) (la := 31) hm M_h hF0 hlb hle (Nat.le_refl _) (by decide) (by omega) (by decide) K_I_60 K_I_61 (fun z2 h2 I2 A2 fr2 M_h2 fi2 fa2 => ?_) (fun o2 u2 c2 z2 h2 I2 A2 fr2 M_h2 fi2 fa2 K_I2_60 T2 => ?_)
  · skip
    have FR_h2 := (FR_h).ztr fr2
    have FI_I2 : Fi I I2 (fun f => f = 60) := (FI_I).ztr fi2
    have FA_A2 : FaS AR A2 (fun b => (13 ≤ b ∧ b ≤ 15) ∨ b = 30) := (FA_AR).ztr ((fa2).mono (fun j hj => by omega))
    show WX _ _ _ 182 [(0, .ref m), (1, .int 1), (2, .int 0), (4, .int 0), (5, .int 1)] [.int (-1)] (n, s, h2)
    refine WX.s1 (L' := [(0, .ref m), (1, .int 1), (2, .int 0), (4, .int 0), (5, .int 1), (6, .int (-1))]) rfl rfl ?_
    refine WX.s1 rfl rfl ?_
    refine WX.if_ rfl (fun c_186 => absurd c_186 (by decide)) (fun c_186 => ?_)
    clear c_186
    refine WX.s1 rfl rfl ?_
    exact WX.ret1 rfl (k0 3 _ (Or.inr (Or.inr (Or.inl ⟨rfl, Or.inl ⟨x, e, r0, z2⟩⟩))) (by decide) h2 I2 A2 FR_h2 M_h2 ((hX).mv FI_I2 FA_A2 (fun f h => by omega) (fun b h => by omega) (by decide) (by obtain ⟨c_, w_, q_⟩ := hX.2.2.2.2.2.2.2.1; exact ⟨c_, w_, (q_).fa (FI_I2 38 (by decide)) (FA_A2 24 (by decide))⟩)))
  · skip
    have FR_h2 := (FR_h).ztr fr2
    have FI_I2 : Fi I I2 (fun f => f = 60) := (FI_I).ztr fi2
    have FA_A2 : FaS AR A2 (fun b => (13 ≤ b ∧ b ≤ 15) ∨ b = 30) := (FA_AR).ztr ((fa2).mono (fun j hj => by omega))
    have K_I2_1 : I2 1 = (nI (l).length) := (fi2 1 (by decide)).trans K_I_1
    have K_I2_61 : I2 61 = (nI (8 * (l).length)) := (fi2 61 (by decide)).trans K_I_61
    obtain ⟨v12, v22, -, v42, -, v62⟩ := rdS_ok (by decide) z2
    have r2 := (⟨r0, z2⟩ : Rd2 l x e (o2, u2, c2))
    show WX _ _ _ 182 [(0, .ref m), (1, .int 1), (2, .int 0), (4, .int 0), (5, .int 1)] [.int (nI o2)] (n, s, h2)
    refine WX.s1 (L' := [(0, .ref m), (1, .int 1), (2, .int 0), (4, .int 0), (5, .int 1), (6, .int (nI o2))]) rfl rfl ?_
    refine WX.s1 rfl rfl ?_
    refine WX.if_ rfl (fun c_186 => ?_) (fun c_186 => absurd ((nI_leI (a := 0) (b := o2) (by omega) (by omega)).mpr (by omega)) c_186)
    clear c_186
    refine WX.s1 rfl rfl ?_
    refine WX.mget rfl hm M_h2 rfl ?_
    refine WX.s1 rfl rfl ?_
    refine WX.s1 rfl rfl ?_
    refine WX.mast (c := 14) rfl hm M_h2 (by decide) (by decide) (by decide) (by decide) (by unfold vp_in; decide) (fun h200n1 A200n1 e_A200n1 M_h200n1 frh200n1 => ?_)
    try dsimp only at e_A200n1
    have FR_h200n1 := (FR_h2).ztr frh200n1
    clear M_h2 FR_h2 frh200n1
    have z_A200n1 : A200n1 = upA A2 14 1 (nI o2) := e_A200n1
    have FA_A200n1 : FaS AR A200n1 (fun b => (13 ≤ b ∧ b ≤ 15) ∨ b = 30) := (FA_A2).ast z_A200n1 (by omega)
    have g14 : A200n1 14 1 = nI o2 := by rw [z_A200n1, upA_same, pk_us]
    have n14 : ∀ q, q ≠ 1 → A200n1 14 q = A2 14 q := fun q hq => by rw [z_A200n1, upA_same, pk_un hq]
    have o14 : ∀ b, b ≠ 14 → A200n1 b = A2 b := fun b hb => by rw [z_A200n1, upA_ne hb]
    have T2b : ∀ j, j < 64 → A200n1 30 j = qI (u2 j) := fun j hj => by rw [o14 30 (by decide)]; exact T2 j hj
    refine WX.s1 rfl rfl ?_
    refine WX.s1 (L' := [(0, .ref m), (1, .int 1), (2, .int 0), (4, .int 0), (5, .int 1), (6, .int (nI o2)), (7, .int 0)]) rfl rfl ?_
    have lp2 : ∀ (t i : Nat) (hL2 : Nat → aE) (AL2 : Nat → Nat → Int32), i + t = 64 → Fr h hL2 (inM m) → MAt hL2 m I2 AL2 LN → FaS A200n1 AL2 (fun b => b = 13) → (∀ j, j < i → AL2 13 (64 + j) = qI (u2 j)) → (∀ q, (q < 64 ∨ 128 ≤ q) → AL2 13 q = A200n1 13 q) → WX (lk tX12_learn) (mM (d + 2)) Ψ 204 [(0, .ref m), (1, .int 1), (2, .int 0), (4, .int 0), (5, .int 1), (6, .int (nI o2)), (7, .int (nI i))] [] (n, s, hL2) := by
      clear M_h200n1 FR_h200n1
      intro t
      induction t with
      | zero =>
        intro i hL2 AL2 ht FR_hL2 M_hL2 faL2 hI hO
        obtain rfl : i = 64 := by omega
        have FA_AL2 : FaS AR AL2 (fun b => (13 ≤ b ∧ b ≤ 15) ∨ b = 30) := (FA_A200n1).ztr ((faL2).mono (fun x hx => by omega))
        have W2_c : WaT AL2 1 o2 u2 := ⟨by rw [faL2 14 (by decide)]; exact g14, hI⟩
        refine WX.s1 rfl rfl ?_
        refine WX.s1 rfl rfl ?_
        refine WX.icmp rfl (fun c_208 => ?_) (fun c_208 => absurd ((nI_leI (a := 64) (b := 64) (by omega) (by omega)).mpr (by omega)) c_208)
        clear c_208
        refine WX.s1 (L' := [(0, .ref m), (1, .int 1), (2, .int 0), (4, .int (0 + 1)), (5, .int 1), (6, .int (nI o2)), (7, .int (nI 64))]) rfl rfl ?_
        refine WX.s1 rfl rfl ?_
        refine WX.s1 rfl rfl ?_
        refine WX.s1 rfl rfl ?_
        refine WX.icmp rfl (fun c_116 => absurd c_116 (by decide)) (fun c_116 => ?_)
        clear c_116
        refine WX.s1 rfl rfl ?_
        refine WX.if_ rfl (fun c_121 => ?_) (fun c_121 => absurd (by decide) c_121)
        clear c_121
        refine WX.s1 rfl rfl ?_
        refine WX.s1 rfl rfl ?_
        refine WX.icmp rfl (fun c_131 => absurd c_131 (by decide)) (fun c_131 => ?_)
        clear c_131
        refine WX.s1 rfl rfl ?_
        refine WX.s1 rfl rfl ?_
        refine WX.s1 (L' := [(0, .ref m), (1, .int 1), (2, .int 0), (4, .int (0 + 1)), (5, .int 2), (6, .int (nI o2)), (7, .int (nI 64))]) rfl rfl ?_
        refine WX.s1 rfl rfl ?_
        refine WX.s1 rfl rfl ?_
        refine WX.s1 rfl rfl ?_
        refine WX.icmp rfl (fun c_145 => ?_) (fun c_145 => absurd (by decide) c_145)
        clear c_145
        refine WX.s1 rfl rfl ?_
        refine WX.s1 rfl rfl ?_
        refine WX.s1 rfl rfl ?_
        refine WX.icmp rfl (fun c_158 => ?_) (fun c_158 => absurd (by decide) c_158)
        clear c_158
        refine WX.s1 rfl rfl ?_
        refine WX.s1 rfl rfl ?_
        refine WX.icmp rfl (fun c_169 => absurd c_169 (by decide)) (fun c_169 => ?_)
        clear c_169
        refine WX.s1 rfl rfl ?_
        refine WX.s1 rfl rfl ?_
        have hF1 : InIs I2 AL2 l := ⟨K_I2_1, by rw [FA_AL2 1 (by decide)]; exact hX.1.2⟩
        refine WX.callC (vs := [.ref m, .int (nI 9), .int (nI 52)]) rfl rfl rfl (Nat.le_of_ble_eq_true rfl) ((M_hL2).rcv hm) ?_
        refine m_rdSh (d := d) (G := 9) (la := 52) hm M_hL2 hF1 hlb hle (Nat.le_refl _) (by decide) (by omega) (by decide) K_I2_60 K_I2_61 (fun z3 h3 I3 A3 fr3 M_h3 fi3 fa3 => ?_) (fun o3 u3 c3 z3 h3 I3 A3 fr3 M_h3 fi3 fa3 K_I3_60 T3 => ?_)
        · skip
          have FR_h3 := (FR_hL2).ztr fr3
          have FI_I3 : Fi I I3 (fun f => f = 60) := (FI_I2).ztr fi3
          have FA_A3 : FaS AR A3 (fun b => (13 ≤ b ∧ b ≤ 15) ∨ b = 30) := (FA_AL2).ztr ((fa3).mono (fun j hj => by omega))
          show WX _ _ _ 182 [(0, .ref m), (1, .int 1), (2, .int 0), (4, .int (0 + 1)), (5, .int 2), (6, .int (nI o2)), (7, .int (nI 64))] [.int (-1)] (n, s, h3)
          refine WX.s1 (L' := [(0, .ref m), (1, .int 1), (2, .int 0), (4, .int (0 + 1)), (5, .int 2), (6, .int (-1)), (7, .int (nI 64))]) rfl rfl ?_
          refine WX.s1 rfl rfl ?_
          refine WX.if_ rfl (fun c_186 => absurd c_186 (by decide)) (fun c_186 => ?_)
          clear c_186
          refine WX.s1 rfl rfl ?_
          exact WX.ret1 rfl (k0 3 _ (Or.inr (Or.inr (Or.inl ⟨rfl, Or.inr (Or.inl ⟨x, e, (o2, u2, c2), r2, z3⟩)⟩))) (by decide) h3 I3 A3 FR_h3 M_h3 ((hX).mv FI_I3 FA_A3 (fun f h => by omega) (fun b h => by omega) (by decide) (by obtain ⟨c_, w_, q_⟩ := hX.2.2.2.2.2.2.2.1; exact ⟨c_, w_, (q_).fa (FI_I3 38 (by decide)) (FA_A3 24 (by decide))⟩)))
        · skip
          have FR_h3 := (FR_hL2).ztr fr3
          have FI_I3 : Fi I I3 (fun f => f = 60) := (FI_I2).ztr fi3
          have FA_A3 : FaS AR A3 (fun b => (13 ≤ b ∧ b ≤ 15) ∨ b = 30) := (FA_AL2).ztr ((fa3).mono (fun j hj => by omega))
          have K_I3_1 : I3 1 = (nI (l).length) := (fi3 1 (by decide)).trans K_I2_1
          have K_I3_61 : I3 61 = (nI (8 * (l).length)) := (fi3 61 (by decide)).trans K_I2_61
          obtain ⟨v13, v23, -, v43, -, v63⟩ := rdS_ok (by decide) z3
          have r3 := (⟨r2, z3⟩ : Rd3_ l x e (o2, u2, c2) (o3, u3, c3))
          have W2_3 := WaT.fa W2_c (fa3 14 (by decide)) (fa3 13 (by decide))
          show WX _ _ _ 182 [(0, .ref m), (1, .int 1), (2, .int 0), (4, .int (0 + 1)), (5, .int 2), (6, .int (nI o2)), (7, .int (nI 64))] [.int (nI o3)] (n, s, h3)
          refine WX.s1 (L' := [(0, .ref m), (1, .int 1), (2, .int 0), (4, .int (0 + 1)), (5, .int 2), (6, .int (nI o3)), (7, .int (nI 64))]) rfl rfl ?_
          refine WX.s1 rfl rfl ?_
          refine WX.if_ rfl (fun c_186 => ?_) (fun c_186 => absurd ((nI_leI (a := 0) (b := o3) (by omega) (by omega)).mpr (by omega)) c_186)
          clear c_186
          refine WX.s1 rfl rfl ?_
          refine WX.mget rfl hm M_h3 rfl ?_
          refine WX.s1 rfl rfl ?_
          refine WX.s1 rfl rfl ?_
          refine WX.mast (c := 14) rfl hm M_h3 (by decide) (by decide) (by decide) (by decide) (by unfold vp_in; decide) (fun h200n2 A200n2 e_A200n2 M_h200n2 frh200n2 => ?_)
          try dsimp only at e_A200n2
          have FR_h200n2 := (FR_h3).ztr frh200n2
          clear M_h3 FR_h3 frh200n2
          have z_A200n2 : A200n2 = upA A3 14 2 (nI o3) := e_A200n2
          have FA_A200n2 : FaS AR A200n2 (fun b => (13 ≤ b ∧ b ≤ 15) ∨ b = 30) := (FA_A3).ast z_A200n2 (by omega)
          have g14 : A200n2 14 2 = nI o3 := by rw [z_A200n2, upA_same, pk_us]
          have n14 : ∀ q, q ≠ 2 → A200n2 14 q = A3 14 q := fun q hq => by rw [z_A200n2, upA_same, pk_un hq]
          have o14 : ∀ b, b ≠ 14 → A200n2 b = A3 b := fun b hb => by rw [z_A200n2, upA_ne hb]
          have W2_b3 : WaT A200n2 1 o2 u2 := ⟨(n14 1 (by decide)).trans W2_3.1, fun s hs => by rw [o14 13 (by decide)]; exact W2_3.2 s hs⟩
          have T3b : ∀ j, j < 64 → A200n2 30 j = qI (u3 j) := fun j hj => by rw [o14 30 (by decide)]; exact T3 j hj
          refine WX.s1 rfl rfl ?_
          refine WX.s1 (L' := [(0, .ref m), (1, .int 1), (2, .int 0), (4, .int (0 + 1)), (5, .int 2), (6, .int (nI o3)), (7, .int 0)]) rfl rfl ?_
          have lp3 : ∀ (t i : Nat) (hL3 : Nat → aE) (AL3 : Nat → Nat → Int32), i + t = 64 → Fr h hL3 (inM m) → MAt hL3 m I3 AL3 LN → FaS A200n2 AL3 (fun b => b = 13) → (∀ j, j < i → AL3 13 (128 + j) = qI (u3 j)) → (∀ q, (q < 128 ∨ 192 ≤ q) → AL3 13 q = A200n2 13 q) → WX (lk tX12_learn) (mM (d + 2)) Ψ 204 [(0, .ref m), (1, .int 1), (2, .int 0), (4, .int (0 + 1)), (5, .int 2), (6, .int (nI o3)), (7, .int (nI i))] [] (n, s, hL3) := by
            clear M_h200n2 FR_h200n2
            intro t
            induction t with
            | zero =>
              intro i hL3 AL3 ht FR_hL3 M_hL3 faL3 hI hO
              obtain rfl : i = 64 := by omega
              have FA_AL3 : FaS AR AL3 (fun b => (13 ≤ b ∧ b ≤ 15) ∨ b = 30) := (FA_A200n2).ztr ((faL3).mono (fun x hx => by omega))
              have W3_c : WaT AL3 2 o3 u3 := ⟨by rw [faL3 14 (by decide)]; exact g14, hI⟩
              have W2_d3 : WaT AL3 1 o2 u2 := ⟨by rw [faL3 14 (by decide)]; exact W2_b3.1, fun s hs => by rw [hO _ (by omega)]; exact W2_b3.2 s hs⟩
              refine WX.s1 rfl rfl ?_
              refine WX.s1 rfl rfl ?_
              refine WX.icmp rfl (fun c_208 => ?_) (fun c_208 => absurd ((nI_leI (a := 64) (b := 64) (by omega) (by omega)).mpr (by omega)) c_208)
              clear c_208
              refine WX.s1 (L' := [(0, .ref m), (1, .int 1), (2, .int 0), (4, .int ((0 + 1) + 1)), (5, .int 2), (6, .int (nI o3)), (7, .int (nI 64))]) rfl rfl ?_
              refine WX.s1 rfl rfl ?_
              refine WX.s1 rfl rfl ?_
              refine WX.s1 rfl rfl ?_
              refine WX.icmp rfl (fun c_116 => absurd c_116 (by decide)) (fun c_116 => ?_)
              clear c_116
              refine WX.s1 rfl rfl ?_
              refine WX.if_ rfl (fun c_121 => ?_) (fun c_121 => absurd (by decide) c_121)
              clear c_121
              refine WX.s1 rfl rfl ?_
              refine WX.s1 rfl rfl ?_
              refine WX.icmp rfl (fun c_131 => ?_) (fun c_131 => absurd (by decide) c_131)
              clear c_131
              refine WX.s1 rfl rfl ?_
              refine WX.s1 (L' := [(0, .ref m), (1, .int 1), (2, .int 0), (4, .int ((0 + 1) + 1)), (5, .int 0), (6, .int (nI o3)), (7, .int (nI 64))]) rfl rfl ?_
              refine WX.s1 rfl rfl ?_
              refine WX.s1 rfl rfl ?_
              refine WX.s1 rfl rfl ?_
              refine WX.icmp rfl (fun c_145 => ?_) (fun c_145 => absurd (by decide) c_145)
              clear c_145
              refine WX.s1 rfl rfl ?_
              refine WX.s1 rfl rfl ?_
              refine WX.s1 rfl rfl ?_
              refine WX.icmp rfl (fun c_158 => ?_) (fun c_158 => absurd (by decide) c_158)
              clear c_158
              refine WX.s1 rfl rfl ?_
              refine WX.s1 rfl rfl ?_
              refine WX.icmp rfl (fun c_169 => ?_) (fun c_169 => absurd (by decide) c_169)
              clear c_169
              refine WX.s1 rfl rfl ?_
              have hF2 : InIs I3 AL3 l := ⟨K_I3_1, by rw [FA_AL3 1 (by decide)]; exact hX.1.2⟩
              refine WX.callC (vs := [.ref m, .int (nI 9), .int (nI 35)]) rfl rfl rfl (Nat.le_of_ble_eq_true rfl) ((M_hL3).rcv hm) ?_
              refine m_rdSh (d := d) (G := 9) (la := 35) hm M_hL3 hF2 hlb hle (Nat.le_refl _) (by decide) (by omega) (by decide) K_I3_60 K_I3_61 (fun z1 h1 I1 A1 fr1 M_h1 fi1 fa1 => ?_) (fun o1 u1 c1 z1 h1 I1 A1 fr1 M_h1 fi1 fa1 K_I1_60 T1 => ?_)
              · skip
                have FR_h1 := (FR_hL3).ztr fr1
                have FI_I1 : Fi I I1 (fun f => f = 60) := (FI_I3).ztr fi1
                have FA_A1 : FaS AR A1 (fun b => (13 ≤ b ∧ b ≤ 15) ∨ b = 30) := (FA_AL3).ztr ((fa1).mono (fun j hj => by omega))
                show WX _ _ _ 182 [(0, .ref m), (1, .int 1), (2, .int 0), (4, .int ((0 + 1) + 1)), (5, .int 0), (6, .int (nI o3)), (7, .int (nI 64))] [.int (-1)] (n, s, h1)
                refine WX.s1 (L' := [(0, .ref m), (1, .int 1), (2, .int 0), (4, .int ((0 + 1) + 1)), (5, .int 0), (6, .int (-1)), (7, .int (nI 64))]) rfl rfl ?_
                refine WX.s1 rfl rfl ?_
                refine WX.if_ rfl (fun c_186 => absurd c_186 (by decide)) (fun c_186 => ?_)
                clear c_186
                refine WX.s1 rfl rfl ?_
                exact WX.ret1 rfl (k0 3 _ (Or.inr (Or.inr (Or.inl ⟨rfl, Or.inr (Or.inr ⟨x, e, (o2, u2, c2), (o3, u3, c3), r3, z1⟩)⟩))) (by decide) h1 I1 A1 FR_h1 M_h1 ((hX).mv FI_I1 FA_A1 (fun f h => by omega) (fun b h => by omega) (by decide) (by obtain ⟨c_, w_, q_⟩ := hX.2.2.2.2.2.2.2.1; exact ⟨c_, w_, (q_).fa (FI_I1 38 (by decide)) (FA_A1 24 (by decide))⟩)))
              · skip
                have FR_h1 := (FR_hL3).ztr fr1
                have FI_I1 : Fi I I1 (fun f => f = 60) := (FI_I3).ztr fi1
                have FA_A1 : FaS AR A1 (fun b => (13 ≤ b ∧ b ≤ 15) ∨ b = 30) := (FA_AL3).ztr ((fa1).mono (fun j hj => by omega))
                have K_I1_1 : I1 1 = (nI (l).length) := (fi1 1 (by decide)).trans K_I3_1
                have K_I1_61 : I1 61 = (nI (8 * (l).length)) := (fi1 61 (by decide)).trans K_I3_61
                obtain ⟨v11, v21, -, v41, -, v61⟩ := rdS_ok (by decide) z1
                have r1 := (⟨r3, z1⟩ : Rd1 l x e (o1, u1, c1) (o2, u2, c2) (o3, u3, c3))
                have W2_1 := WaT.fa W2_d3 (fa1 14 (by decide)) (fa1 13 (by decide))
                have W3_1 := WaT.fa W3_c (fa1 14 (by decide)) (fa1 13 (by decide))
                show WX _ _ _ 182 [(0, .ref m), (1, .int 1), (2, .int 0), (4, .int ((0 + 1) + 1)), (5, .int 0), (6, .int (nI o3)), (7, .int (nI 64))] [.int (nI o1)] (n, s, h1)
                refine WX.s1 (L' := [(0, .ref m), (1, .int 1), (2, .int 0), (4, .int ((0 + 1) + 1)), (5, .int 0), (6, .int (nI o1)), (7, .int (nI 64))]) rfl rfl ?_
                refine WX.s1 rfl rfl ?_
                refine WX.if_ rfl (fun c_186 => ?_) (fun c_186 => absurd ((nI_leI (a := 0) (b := o1) (by omega) (by omega)).mpr (by omega)) c_186)
                clear c_186
                refine WX.s1 rfl rfl ?_
                refine WX.mget rfl hm M_h1 rfl ?_
                refine WX.s1 rfl rfl ?_
                refine WX.s1 rfl rfl ?_
                refine WX.mast (c := 14) rfl hm M_h1 (by decide) (by decide) (by decide) (by decide) (by unfold vp_in; decide) (fun h200n3 A200n3 e_A200n3 M_h200n3 frh200n3 => ?_)
                try dsimp only at e_A200n3
                have FR_h200n3 := (FR_h1).ztr frh200n3
                clear M_h1 FR_h1 frh200n3
                have z_A200n3 : A200n3 = upA A1 14 0 (nI o1) := e_A200n3
                have FA_A200n3 : FaS AR A200n3 (fun b => (13 ≤ b ∧ b ≤ 15) ∨ b = 30) := (FA_A1).ast z_A200n3 (by omega)
                have g14 : A200n3 14 0 = nI o1 := by rw [z_A200n3, upA_same, pk_us]
                have n14 : ∀ q, q ≠ 0 → A200n3 14 q = A1 14 q := fun q hq => by rw [z_A200n3, upA_same, pk_un hq]
                have o14 : ∀ b, b ≠ 14 → A200n3 b = A1 b := fun b hb => by rw [z_A200n3, upA_ne hb]
                have W2_b1 : WaT A200n3 1 o2 u2 := ⟨(n14 1 (by decide)).trans W2_1.1, fun s hs => by rw [o14 13 (by decide)]; exact W2_1.2 s hs⟩
                have W3_b1 : WaT A200n3 2 o3 u3 := ⟨(n14 2 (by decide)).trans W3_1.1, fun s hs => by rw [o14 13 (by decide)]; exact W3_1.2 s hs⟩
                have T1b : ∀ j, j < 64 → A200n3 30 j = qI (u1 j) := fun j hj => by rw [o14 30 (by decide)]; exact T1 j hj
                refine WX.s1 rfl rfl ?_
                refine WX.s1 (L' := [(0, .ref m), (1, .int 1), (2, .int 0), (4, .int ((0 + 1) + 1)), (5, .int 0), (6, .int (nI o1)), (7, .int 0)]) rfl rfl ?_
                have lp1 : ∀ (t i : Nat) (hL1 : Nat → aE) (AL1 : Nat → Nat → Int32), i + t = 64 → Fr h hL1 (inM m) → MAt hL1 m I1 AL1 LN → FaS A200n3 AL1 (fun b => b = 13) → (∀ j, j < i → AL1 13 (0 + j) = qI (u1 j)) → (∀ q, (q < 0 ∨ 64 ≤ q) → AL1 13 q = A200n3 13 q) → WX (lk tX12_learn) (mM (d + 2)) Ψ 204 [(0, .ref m), (1, .int 1), (2, .int 0), (4, .int ((0 + 1) + 1)), (5, .int 0), (6, .int (nI o1)), (7, .int (nI i))] [] (n, s, hL1) := by
                  clear M_h200n3 FR_h200n3
                  intro t
                  induction t with
                  | zero =>
                    intro i hL1 AL1 ht FR_hL1 M_hL1 faL1 hI hO
                    obtain rfl : i = 64 := by omega
                    have FA_AL1 : FaS AR AL1 (fun b => (13 ≤ b ∧ b ≤ 15) ∨ b = 30) := (FA_A200n3).ztr ((faL1).mono (fun x hx => by omega))
                    have W1_c : WaT AL1 0 o1 u1 := ⟨by rw [faL1 14 (by decide)]; exact g14, hI⟩
                    have W2_d1 : WaT AL1 1 o2 u2 := ⟨by rw [faL1 14 (by decide)]; exact W2_b1.1, fun s hs => by rw [hO _ (by omega)]; exact W2_b1.2 s hs⟩
                    have W3_d1 : WaT AL1 2 o3 u3 := ⟨by rw [faL1 14 (by decide)]; exact W3_b1.1, fun s hs => by rw [hO _ (by omega)]; exact W3_b1.2 s hs⟩
                    refine WX.s1 rfl rfl ?_
                    refine WX.s1 rfl rfl ?_
                    refine WX.icmp rfl (fun c_208 => ?_) (fun c_208 => absurd ((nI_leI (a := 64) (b := 64) (by omega) (by omega)).mpr (by omega)) c_208)
                    clear c_208
                    refine WX.s1 (L' := [(0, .ref m), (1, .int 1), (2, .int 0), (4, .int (((0 + 1) + 1) + 1)), (5, .int 0), (6, .int (nI o1)), (7, .int (nI 64))]) rfl rfl ?_
                    refine WX.s1 rfl rfl ?_
                    refine WX.s1 rfl rfl ?_
                    refine WX.s1 rfl rfl ?_
                    refine WX.icmp rfl (fun c_116 => ?_) (fun c_116 => absurd (by decide) c_116)
                    clear c_116
                    refine WX.s1 rfl rfl ?_
                    refine WX.mgetK (x := (nI (8 * ((c1 + 7) / 8)))) rfl hm M_hL1 rfl K_I1_60 ?_
                    refine WX.s1 rfl rfl ?_
                    refine WX.div rfl (by decide) ?_
                    rw [show nI (8 * ((c1 + 7) / 8)) / 8 = nI ((c1 + 7) / 8) from (pk_div (d := 8) (by omega) (by decide) (by decide)).trans (congrArg nI (by omega))]
                    refine WX.s1 rfl rfl ?_
                    refine WX.s1 (S' := [.int ((nI ((c1 + 7) / 8)) + 12)]) rfl rfl ?_
                    rw [show ((nI ((c1 + 7) / 8)) + 12) = nI ((c1 + 7) / 8 + 12) from nI_add ((c1 + 7) / 8) 12]
                    refine WX.s1 (L' := [(0, .ref m), (1, .int 1), (2, .int (nI ((c1 + 7) / 8 + 12))), (4, .int (((0 + 1) + 1) + 1)), (5, .int 0), (6, .int (nI o1)), (7, .int (nI 64))]) rfl rfl ?_
                    refine WX.s1 rfl rfl ?_
                    refine WX.s1 rfl rfl ?_
                    refine WX.mgetK (x := (nI (l).length)) rfl hm M_hL1 rfl K_I1_1 ?_
                    refine WX.icmp rfl (fun c_259 => ?_) (fun c_259 => ?_)
                    · skip
                      have n_259 : ((c1 + 7) / 8 + 12) ≤ (l).length := (nI_leI (a := (c1 + 7) / 8 + 12) (b := (l).length) (by omega) (by omega)).mp c_259
                      refine WX.keep (y := 220) [0, 1, 2] (show ([0, 1, 2, 4, 5, 6, 7] : List Nat).Nodup by decide) rfl ?_
                      have g := FI_I1
                      exact m_lrB (d := d + 1) (L := x.1) (t := x.2) hm M_hL1 ⟨K_I1_1, by rw [FA_AL1 1 (by decide)]; exact hX.1.2⟩ ⟨I, AR, hX, g 3 (by decide), g 4 (by decide), g 5 (by decide), g 38 (by decide), FA_AL1 2 (by decide), FA_AL1 24 (by decide), FA_AL1 43 (by decide)⟩ hB (by omega) h8 (fun s hs => by rw [FA_AL1 37 (by decide)]; exact hL37 s hs) W1_c W2_d1 W3_d1 ⟨sx, hsx1, hsx2⟩ (fun z h9 A9 f9 M9 a9 => k0 4 _ (Or.inr (Or.inr (Or.inr ⟨x, e, (o1, u1, c1), (o2, u2, c2), (o3, u3, c3), r1, Or.inr ⟨rfl, by show ¬ (l).length < ((c1 + 7) / 8) + 12; omega, z⟩⟩))) (by decide) h9 I1 A9 ((FR_hL1).ztr f9) M9 ((hX).mv FI_I1 ((FA_AL1).ztr ((a9).mono (fun j hj => by omega))) (fun f h => by omega) (fun b h => by omega) (by decide) (by obtain ⟨c_, w_, q_⟩ := hX.2.2.2.2.2.2.2.1; exact ⟨c_, w_, (q_).fa (g 38 (by decide)) ((a9 24 (by decide)).trans (FA_AL1 24 (by decide)))⟩))) (fun z h9 I9 A9 f9 M9 q9 => k1 (mkT l x (o1, u1, c1) (o2, u2, c2) (o3, u3, c3)) (((c1 + 7) / 8) + 12) ⟨x, e, (o1, u1, c1), (o2, u2, c2), (o3, u3, c3), r1, by show ¬ (l).length < ((c1 + 7) / 8) + 12; omega, z, rfl⟩ h9 I9 A9 ((FR_hL1).ztr f9) M9 q9)
                    · skip
                      have n_259 : (l).length < ((c1 + 7) / 8 + 12) := Nat.lt_of_not_le (fun zz_ => c_259 ((nI_leI (a := (c1 + 7) / 8 + 12) (b := (l).length) (by omega) (by omega)).mpr zz_))
                      refine WX.s1 rfl rfl ?_
                      exact WX.ret1 rfl (k0 1 _ (Or.inr (Or.inr (Or.inr ⟨x, e, (o1, u1, c1), (o2, u2, c2), (o3, u3, c3), r1, Or.inl ⟨rfl, by show (l).length < ((c1 + 7) / 8) + 12; omega⟩⟩))) (by decide) hL1 I1 AL1 FR_hL1 M_hL1 ((hX).mv FI_I1 FA_AL1 (fun f h => by omega) (fun b h => by omega) (by decide) (by obtain ⟨c_, w_, q_⟩ := hX.2.2.2.2.2.2.2.1; exact ⟨c_, w_, (q_).fa (FI_I1 38 (by decide)) (FA_AL1 24 (by decide))⟩)))
                  | succ t ih =>
                    intro i hL1 AL1 ht FR_hL1 M_hL1 faL1 hI hO
                    refine WX.s1 rfl rfl ?_
                    refine WX.s1 rfl rfl ?_
                    refine WX.icmp rfl (fun c_208 => absurd c_208 (fun zz_ => absurd ((nI_leI (a := 64) (b := i) (by omega) (by omega)).mp zz_) (Nat.not_le.mpr (by omega)))) (fun c_208 => ?_)
                    clear c_208
                    refine WX.s1 rfl rfl ?_
                    refine WX.mget rfl hm M_hL1 rfl ?_
                    refine WX.s1 rfl rfl ?_
                    refine WX.s1 rfl rfl ?_
                    refine WX.s1 (S' := [.int (64 * 0), .ref (m + 13)]) rfl rfl ?_
                    rw [show ((64 : Int32) * 0) = nI 0 from rfl]
                    refine WX.s1 rfl rfl ?_
                    refine WX.s1 (S' := [.int ((nI 0) + (nI i)), .ref (m + 13)]) rfl rfl ?_
                    rw [show ((nI 0) + (nI i)) = nI (0 + i) from nI_add 0 i]
                    refine WX.s1 rfl rfl ?_
                    refine WX.mget rfl hm M_hL1 rfl ?_
                    refine WX.s1 rfl rfl ?_
                    refine WX.mald (c := 30) rfl hm M_hL1 (by decide) (by decide) (by decide) (by decide) (vp_in_nI (N := 64) (by omega) (by decide)) ?_
                    rw [nI_clamp (by omega), faL1 30 (by decide), T1b i (by omega)]
                    refine WX.mast (c := 13) rfl hm M_hL1 (by decide) (by decide) (by decide) (by decide) (vp_in_nI (N := 192) (by omega) (by decide)) (fun h230n4 A230n4 e_A230n4 M_h230n4 frh230n4 => ?_)
                    try dsimp only at e_A230n4
                    have FR_h230n4 := (FR_hL1).ztr frh230n4
                    clear M_hL1 FR_hL1 frh230n4
                    refine WX.s1 (L' := [(0, .ref m), (1, .int 1), (2, .int 0), (4, .int ((0 + 1) + 1)), (5, .int 0), (6, .int (nI o1)), (7, .int ((nI i) + 1))]) rfl rfl ?_
                    rw [show ((nI i) + 1) = nI (i + 1) from nI_add i 1]
                    refine WX.s1 rfl rfl ?_
                    rw [nI_clamp (by omega)] at e_A230n4
                    refine ih (i + 1) h230n4 A230n4 (by omega) FR_h230n4 M_h230n4 ((faL1).ast e_A230n4 rfl) (fun j hj => ?_) (fun q hq => ?_)
                    · by_cases z : j = i
                      · rw [z, e_A230n4, upA_same, pk_us]
                      · rw [e_A230n4, upA_same, pk_un (by omega)]; exact hI j (by omega)
                    · rw [e_A230n4, upA_same, pk_un (by omega)]; exact hO q hq
                exact lp1 64 0 h200n3 A200n3 (by omega) FR_h200n3 M_h200n3 FaS.rf (fun j hj => absurd hj (Nat.not_lt_zero j)) (fun q _ => rfl)
            | succ t ih =>
              intro i hL3 AL3 ht FR_hL3 M_hL3 faL3 hI hO
              refine WX.s1 rfl rfl ?_
              refine WX.s1 rfl rfl ?_
              refine WX.icmp rfl (fun c_208 => absurd c_208 (fun zz_ => absurd ((nI_leI (a := 64) (b := i) (by omega) (by omega)).mp zz_) (Nat.not_le.mpr (by omega)))) (fun c_208 => ?_)
              clear c_208
              refine WX.s1 rfl rfl ?_
              refine WX.mget rfl hm M_hL3 rfl ?_
              refine WX.s1 rfl rfl ?_
              refine WX.s1 rfl rfl ?_
              refine WX.s1 (S' := [.int (64 * 2), .ref (m + 13)]) rfl rfl ?_
              rw [show ((64 : Int32) * 2) = nI 128 from rfl]
              refine WX.s1 rfl rfl ?_
              refine WX.s1 (S' := [.int ((nI 128) + (nI i)), .ref (m + 13)]) rfl rfl ?_
              rw [show ((nI 128) + (nI i)) = nI (128 + i) from nI_add 128 i]
              refine WX.s1 rfl rfl ?_
              refine WX.mget rfl hm M_hL3 rfl ?_
              refine WX.s1 rfl rfl ?_
              refine WX.mald (c := 30) rfl hm M_hL3 (by decide) (by decide) (by decide) (by decide) (vp_in_nI (N := 64) (by omega) (by decide)) ?_
              rw [nI_clamp (by omega), faL3 30 (by decide), T3b i (by omega)]
              refine WX.mast (c := 13) rfl hm M_hL3 (by decide) (by decide) (by decide) (by decide) (vp_in_nI (N := 192) (by omega) (by decide)) (fun h230n5 A230n5 e_A230n5 M_h230n5 frh230n5 => ?_)
              try dsimp only at e_A230n5
              have FR_h230n5 := (FR_hL3).ztr frh230n5
              clear M_hL3 FR_hL3 frh230n5
              refine WX.s1 (L' := [(0, .ref m), (1, .int 1), (2, .int 0), (4, .int (0 + 1)), (5, .int 2), (6, .int (nI o3)), (7, .int ((nI i) + 1))]) rfl rfl ?_
              rw [show ((nI i) + 1) = nI (i + 1) from nI_add i 1]
              refine WX.s1 rfl rfl ?_
              rw [nI_clamp (by omega)] at e_A230n5
              refine ih (i + 1) h230n5 A230n5 (by omega) FR_h230n5 M_h230n5 ((faL3).ast e_A230n5 rfl) (fun j hj => ?_) (fun q hq => ?_)
              · by_cases z : j = i
                · rw [z, e_A230n5, upA_same, pk_us]
                · rw [e_A230n5, upA_same, pk_un (by omega)]; exact hI j (by omega)
              · rw [e_A230n5, upA_same, pk_un (by omega)]; exact hO q hq
          exact lp3 64 0 h200n2 A200n2 (by omega) FR_h200n2 M_h200n2 FaS.rf (fun j hj => absurd hj (Nat.not_lt_zero j)) (fun q _ => rfl)
      | succ t ih =>
        intro i hL2 AL2 ht FR_hL2 M_hL2 faL2 hI hO
        refine WX.s1 rfl rfl ?_
        refine WX.s1 rfl rfl ?_
        refine WX.icmp rfl (fun c_208 => absurd c_208 (fun zz_ => absurd ((nI_leI (a := 64) (b := i) (by omega) (by omega)).mp zz_) (Nat.not_le.mpr (by omega)))) (fun c_208 => ?_)
        clear c_208
        refine WX.s1 rfl rfl ?_
        refine WX.mget rfl hm M_hL2 rfl ?_
        refine WX.s1 rfl rfl ?_
        refine WX.s1 rfl rfl ?_
        refine WX.s1 (S' := [.int (64 * 1), .ref (m + 13)]) rfl rfl ?_
        rw [show ((64 : Int32) * 1) = nI 64 from rfl]
        refine WX.s1 rfl rfl ?_
        refine WX.s1 (S' := [.int ((nI 64) + (nI i)), .ref (m + 13)]) rfl rfl ?_
        rw [show ((nI 64) + (nI i)) = nI (64 + i) from nI_add 64 i]
        refine WX.s1 rfl rfl ?_
        refine WX.mget rfl hm M_hL2 rfl ?_
        refine WX.s1 rfl rfl ?_
        refine WX.mald (c := 30) rfl hm M_hL2 (by decide) (by decide) (by decide) (by decide) (vp_in_nI (N := 64) (by omega) (by decide)) ?_
        rw [nI_clamp (by omega), faL2 30 (by decide), T2b i (by omega)]
        refine WX.mast (c := 13) rfl hm M_hL2 (by decide) (by decide) (by decide) (by decide) (vp_in_nI (N := 192) (by omega) (by decide)) (fun h230n6 A230n6 e_A230n6 M_h230n6 frh230n6 => ?_)
        try dsimp only at e_A230n6
        have FR_h230n6 := (FR_hL2).ztr frh230n6
        clear M_hL2 FR_hL2 frh230n6
        refine WX.s1 (L' := [(0, .ref m), (1, .int 1), (2, .int 0), (4, .int 0), (5, .int 1), (6, .int (nI o2)), (7, .int ((nI i) + 1))]) rfl rfl ?_
        rw [show ((nI i) + 1) = nI (i + 1) from nI_add i 1]
        refine WX.s1 rfl rfl ?_
        rw [nI_clamp (by omega)] at e_A230n6
        refine ih (i + 1) h230n6 A230n6 (by omega) FR_h230n6 M_h230n6 ((faL2).ast e_A230n6 rfl) (fun j hj => ?_) (fun q hq => ?_)
        · by_cases z : j = i
          · rw [z, e_A230n6, upA_same, pk_us]
          · rw [e_A230n6, upA_same, pk_un (by omega)]; exact hI j (by omega)
        · rw [e_A230n6, upA_same, pk_un (by omega)]; exact hO q hq
    exact lp2 64 0 h200n1 A200n1 (by omega) FR_h200n1 M_h200n1 FaS.rf (fun j hj => absurd hj (Nat.not_lt_zero j)) (fun q _ => rfl)
