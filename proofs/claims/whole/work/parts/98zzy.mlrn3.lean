/-! the reference learns: the whole call; forgets -/
set_option maxRecDepth 20000 in
theorem m_learnL {d n s : Nat} {h : Nat → aE} {m : Nat} {I : Nat → Int32} {AR : Nat → Nat → Int32} {LN : Nat → Int64} {id way least : Nat} {l lo ld : List Nat} {T : PkS} {ab : Nat → Nat} (hm : m + 43 < n) (M_h : MAt h m I AR LN) (hX : RfX I AR id way least l lo ld T ab) (hB : RfB l lo ld)  {Ψ : Option Value → aH → Prop} (k0 : ∀ k v, fmd l → RdT l (.inl k) → v = -nI k → ∀ h' I' A', Fr h h' (inM m) → MAt h' m I' A' LN → RfX I' A' id way least l lo ld T ab → Ψ (some (.int v)) (n, s, h')) (k1 : ¬ fmd l → ∀ h' I' A', Fr h h' (inM m) → MAt h' m I' A' LN → RfX I' A' 0 way least [] lo l stN ab → Ψ (some (.int (nI (l).length))) (n, s, h')) (k2 : ∀ T2 a, fmd l → RdT l (.inr (T2, a)) → ∀ h' I' A', Fr h h' (inM m) → MAt h' m I' A' LN → RfX I' A' (wdN l 4 4) way least [] lo (sliceL l a (l).length) T2 ab → Ψ (some (.int (nI ((l).length - a)))) (n, s, h')) : WO (mM (d + 5)) 220 [.ref m] (n, s, h) Ψ := by
  refine WO.of (Nat.le_of_ble_eq_true rfl) ?_
  have FR_h : Fr h h (inM m) := Fr.rf
  have FI_I : Fi I I (fun f => 56 ≤ f ∧ f ≤ 61) := Fi.rf
  have K_I_1 : I 1 = nI (l).length := hX.1.1
  obtain ⟨hle, hld, hlo, hlb, hlb2⟩ := idP hB
  have FA_AR : FaS AR AR (fun b => 26 ≤ b ∧ b ≤ 39) := FaS.rf
  have hfb := fmd_b hlb
  show WX (lk tX12_learn) (mM (d + 4)) Ψ 0 [(0, .ref m)] [] (n, s, h)
  have hb0 := hlb 0
  have hb1 := hlb 1
  have hb2 := hlb 2
  have hb3 := hlb 3
  have t0 : ¬ fmd l → WX (lk tX12_learn) (mM (d + 4)) Ψ 59 [(0, .ref m)] [.int 0] (n, s, h) := by
    intro hfm
    refine WX.s1 (L' := [(0, .ref m), (1, .int 0)]) rfl rfl ?_
    refine WX.s1 rfl rfl ?_
    refine WX.s1 (L' := [(0, .ref m), (1, .int 0), (2, .int 0)]) rfl rfl ?_
    refine WX.s1 rfl rfl ?_
    refine WX.if_ rfl (fun c_63 => ?_) (fun c_63 => absurd (by decide) c_63)
    clear c_63
    show WX (lk tX12_learn) (mM (d + 4)) Ψ 433 [(0, .ref m), (1, .int 0), (2, .int (nI 0))] [] (n, s, h)
    refine m_lrA0 (d := d + 3) (a := 0) hm M_h hX.1 ⟨I, AR, hX, rfl, rfl, rfl, rfl, rfl, rfl, rfl⟩ hB (Nat.zero_le _) (fun h9 I9 A9 f9 M9 q9 => ?_)
    rw [sliceL_all] at q9
    exact k1 hfm h9 I9 A9 f9 M9 q9
  have t1 : fmd l → WX (lk tX12_learn) (mM (d + 4)) Ψ 59 [(0, .ref m)] [.int 1] (n, s, h) := by
    intro hfm
    refine WX.s1 (L' := [(0, .ref m), (1, .int 1)]) rfl rfl ?_
    refine WX.s1 rfl rfl ?_
    refine WX.s1 (L' := [(0, .ref m), (1, .int 1), (2, .int 0)]) rfl rfl ?_
    refine WX.s1 rfl rfl ?_
    refine WX.if_ rfl (fun c_63 => absurd c_63 (by decide)) (fun c_63 => ?_)
    clear c_63
    refine WX.s1 rfl rfl ?_
    refine WX.mgetK (x := (nI (l).length)) rfl hm M_h rfl K_I_1 ?_
    refine WX.s1 rfl rfl ?_
    refine WX.icmp rfl (fun c_72 => ?_) (fun c_72 => ?_)
    · skip
      have n_72 : 8 ≤ (l).length := (nI_leI (a := 8) (b := (l).length) (by omega) (by omega)).mp c_72
      refine WX.s1 rfl rfl ?_
      refine WX.s1 rfl rfl ?_
      refine WX.callC (vs := [.ref m, .int (nI 8)]) rfl rfl rfl (Nat.le_of_ble_eq_true rfl) ((M_h).rcv hm) ?_
      refine m_rdDc (d := d) (f := 8) hm M_h hX.1 hlb hle (by decide) (fun zc h7 I7 A7 fr7 M_h7 fi7 fa7 => ?_) (fun x e zc h7 I7 A7 fr7 M_h7 fi7 fa7 L7 => ?_)
      · skip
        have FR_h7 := (FR_h).ztr fr7
        have FI_I7 : Fi I I7 (fun f => 56 ≤ f ∧ f ≤ 61) := (FI_I).zsub fi7 (fun j hj => by omega)
        have FA_A7 : FaS AR A7 (fun b => 26 ≤ b ∧ b ≤ 39) := (FA_AR).ztr ((fa7).mono (fun j hj => by omega))
        have K_I7_1 : I7 1 = (nI (l).length) := (fi7 1 (by decide)).trans K_I_1
        show WX _ _ _ 83 [(0, .ref m), (1, .int 1), (2, .int 0)] [.int (-1)] (n, s, h7)
        refine WX.s1 (L' := [(0, .ref m), (1, .int 1), (2, .int 0), (3, .int (-1))]) rfl rfl ?_
        refine WX.s1 rfl rfl ?_
        refine WX.if_ rfl (fun c_85 => absurd c_85 (by decide)) (fun c_85 => ?_)
        clear c_85
        refine WX.s1 rfl rfl ?_
        exact WX.ret1 rfl (k0 2 _ hfm (Or.inr (Or.inl ⟨rfl, by omega, zc⟩)) (by decide) h7 I7 A7 FR_h7 M_h7 ((hX).mv FI_I7 FA_A7 (fun f h => by omega) (fun b h => by omega) (by decide) (by obtain ⟨c_, w_, q_⟩ := hX.2.2.2.2.2.2.2.1; exact ⟨c_, w_, (q_).fa (FI_I7 38 (by decide)) (FA_A7 24 (by decide))⟩)))
      · skip
        have FR_h7 := (FR_h).ztr fr7
        have FI_I7 : Fi I I7 (fun f => 56 ≤ f ∧ f ≤ 61) := (FI_I).zsub fi7 (fun j hj => by omega)
        have FA_A7 : FaS AR A7 (fun b => 26 ≤ b ∧ b ≤ 39) := (FA_AR).ztr ((fa7).mono (fun j hj => by omega))
        have K_I7_1 : I7 1 = (nI (l).length) := (fi7 1 (by decide)).trans K_I_1
        obtain ⟨-, -, he1, he2⟩ := rdC_ok zc
        show WX _ _ _ 83 [(0, .ref m), (1, .int 1), (2, .int 0)] [.int (nI e)] (n, s, h7)
        refine WX.s1 (L' := [(0, .ref m), (1, .int 1), (2, .int 0), (3, .int (nI e))]) rfl rfl ?_
        refine WX.s1 rfl rfl ?_
        refine WX.if_ rfl (fun c_85 => ?_) (fun c_85 => absurd ((nI_leI (a := 0) (b := e) (by omega) (by omega)).mpr (by omega)) c_85)
        clear c_85
        refine WX.s1 rfl rfl ?_
        refine WX.s1 rfl rfl ?_
        refine WX.s1 rfl rfl ?_
        refine WX.s1 (S' := [.int (8 * (nI e)), .ref m]) rfl rfl ?_
        rw [show (8 * (nI e)) = nI (8 * e) from (Int32.ofNat_mul 8 e).symm]
        refine WX.mput rfl hm M_h7 (rfl) (by decide) (fun _ => rfl) (fun h96n1 I96n1 e_I96n1 M_h96n1 frh96n1 => ?_)
        have FR_h96n1 := (FR_h7).ztr frh96n1
        have FI_I96n1 : Fi I I96n1 (fun f => 56 ≤ f ∧ f ≤ 61) := (FI_I7).zup e_I96n1 (by first | exact rfl | decide | omega)
        have K_I96n1_1 : I96n1 1 = (nI (l).length) := by rw [e_I96n1]; exact (pk_un (by decide)).trans K_I7_1
        have K_I96n1_60 : I96n1 60 = (nI (8 * e)) := by rw [e_I96n1]; exact pk_us
        clear M_h7 FR_h7 FI_I7 e_I96n1 frh96n1 K_I7_1
        refine WX.s1 rfl rfl ?_
        refine WX.s1 rfl rfl ?_
        refine WX.s1 rfl rfl ?_
        refine WX.mgetK (x := (nI (l).length)) rfl hm M_h96n1 rfl K_I96n1_1 ?_
        refine WX.s1 (S' := [.int (8 * (nI (l).length)), .ref m]) rfl rfl ?_
        rw [show (8 * (nI (l).length)) = nI (8 * (l).length) from (Int32.ofNat_mul 8 (l).length).symm]
        refine WX.mput rfl hm M_h96n1 (rfl) (by decide) (fun _ => rfl) (fun h107n2 I107n2 e_I107n2 M_h107n2 frh107n2 => ?_)
        have FR_h107n2 := (FR_h96n1).ztr frh107n2
        have FI_I107n2 : Fi I I107n2 (fun f => 56 ≤ f ∧ f ≤ 61) := (FI_I96n1).zup e_I107n2 (by first | exact rfl | decide | omega)
        have K_I107n2_1 : I107n2 1 = (nI (l).length) := by rw [e_I107n2]; exact (pk_un (by decide)).trans K_I96n1_1
        have K_I107n2_60 : I107n2 60 = (nI (8 * e)) := by rw [e_I107n2]; exact (pk_un (by decide)).trans K_I96n1_60
        have K_I107n2_61 : I107n2 61 = (nI (8 * (l).length)) := by rw [e_I107n2]; exact pk_us
        clear M_h96n1 FR_h96n1 FI_I96n1 e_I107n2 frh107n2 K_I96n1_1 K_I96n1_60
        refine WX.keep (y := 220) [0, 1, 2] (show ([0, 1, 2, 3] : List Nat).Nodup by decide) rfl ?_
        exact m_lrD (d := d + 2) (x := x) (e := e) hm M_h107n2 ((hX).mv FI_I107n2 FA_A7 (fun f h => by omega) (fun b h => by omega) (by decide) (by obtain ⟨c_, w_, q_⟩ := hX.2.2.2.2.2.2.2.1; exact ⟨c_, w_, (q_).fa (FI_I107n2 38 (by decide)) (FA_A7 24 (by decide))⟩)) hB L7 ⟨by omega, zc⟩ K_I107n2_60 K_I107n2_61 (fun k v z zv h9 I9 A9 f9 M9 q9 => k0 k v hfm z zv h9 I9 A9 ((FR_h107n2).ztr f9) M9 q9) (fun T2 a z h9 I9 A9 f9 M9 q9 => k2 T2 a hfm z h9 I9 A9 ((FR_h107n2).ztr f9) M9 q9)
    · skip
      have n_72 : (l).length < 8 := Nat.lt_of_not_le (fun zz_ => c_72 ((nI_leI (a := 8) (b := (l).length) (by omega) (by omega)).mpr zz_))
      refine WX.s1 rfl rfl ?_
      exact WX.ret1 rfl (k0 1 _ hfm (Or.inl ⟨rfl, by omega⟩) (by decide) h I AR FR_h M_h hX)
  refine WX.s1 rfl rfl ?_
  refine WX.mgetK (x := (nI (l).length)) rfl hm M_h rfl K_I_1 ?_
  refine WX.s1 rfl rfl ?_
  refine WX.icmp rfl (fun c_5 => ?_) (fun c_5 => ?_)
  · skip
    have n_5 : (l).length < 4 := (nI_ltI (a := (l).length) (b := 4) (by omega) (by omega)).mp c_5
    refine WX.s1 rfl rfl ?_
    exact t0 (fun z => by have q := (hfb).mp z; omega)
  · skip
    have n_5 : 4 ≤ (l).length := Nat.le_of_not_lt (fun zz_ => c_5 ((nI_ltI (a := (l).length) (b := 4) (by omega) (by omega)).mpr zz_))
    refine WX.s1 rfl rfl ?_
    refine WX.mget rfl hm M_h rfl ?_
    refine WX.s1 rfl rfl ?_
    refine WX.mald (c := 1) rfl hm M_h (by decide) (by decide) (by decide) (by decide) (by unfold vp_in; decide) ?_
    rw [show AR 1 (Int32.toNatClampNeg 0) = nI ((l).getD 0 0) from hX.1.2 0 (by omega)]
    refine WX.s1 rfl rfl ?_
    refine WX.icmp rfl (fun c_16 => ?_) (fun c_16 => ?_)
    · skip
      have n_16 : ¬ ((l).getD 0 0) = 55 := fun zz_ => c_16 ((nI_eq (a := (l).getD 0 0) (b := 55) (by omega) (by omega)).mpr zz_)
      refine WX.s1 rfl rfl ?_
      exact t0 (fun z => by have q := (hfb).mp z; omega)
    · skip
      have n_16 : ((l).getD 0 0) = 55 := (nI_eq (a := (l).getD 0 0) (b := 55) (by omega) (by omega)).mp (Classical.not_not.mp c_16)
      refine WX.s1 rfl rfl ?_
      refine WX.mget rfl hm M_h rfl ?_
      refine WX.s1 rfl rfl ?_
      refine WX.mald (c := 1) rfl hm M_h (by decide) (by decide) (by decide) (by decide) (by unfold vp_in; decide) ?_
      rw [show AR 1 (Int32.toNatClampNeg 1) = nI ((l).getD 1 0) from hX.1.2 1 (by omega)]
      refine WX.s1 rfl rfl ?_
      refine WX.icmp rfl (fun c_28 => ?_) (fun c_28 => ?_)
      · skip
        have n_28 : ¬ ((l).getD 1 0) = 164 := fun zz_ => c_28 ((nI_eq (a := (l).getD 1 0) (b := 164) (by omega) (by omega)).mpr zz_)
        refine WX.s1 rfl rfl ?_
        exact t0 (fun z => by have q := (hfb).mp z; omega)
      · skip
        have n_28 : ((l).getD 1 0) = 164 := (nI_eq (a := (l).getD 1 0) (b := 164) (by omega) (by omega)).mp (Classical.not_not.mp c_28)
        refine WX.s1 rfl rfl ?_
        refine WX.mget rfl hm M_h rfl ?_
        refine WX.s1 rfl rfl ?_
        refine WX.mald (c := 1) rfl hm M_h (by decide) (by decide) (by decide) (by decide) (by unfold vp_in; decide) ?_
        rw [show AR 1 (Int32.toNatClampNeg 2) = nI ((l).getD 2 0) from hX.1.2 2 (by omega)]
        refine WX.s1 rfl rfl ?_
        refine WX.icmp rfl (fun c_39 => ?_) (fun c_39 => ?_)
        · skip
          have n_39 : ¬ ((l).getD 2 0) = 48 := fun zz_ => c_39 ((nI_eq (a := (l).getD 2 0) (b := 48) (by omega) (by omega)).mpr zz_)
          refine WX.s1 rfl rfl ?_
          exact t0 (fun z => by have q := (hfb).mp z; omega)
        · skip
          have n_39 : ((l).getD 2 0) = 48 := (nI_eq (a := (l).getD 2 0) (b := 48) (by omega) (by omega)).mp (Classical.not_not.mp c_39)
          refine WX.s1 rfl rfl ?_
          refine WX.mget rfl hm M_h rfl ?_
          refine WX.s1 rfl rfl ?_
          refine WX.mald (c := 1) rfl hm M_h (by decide) (by decide) (by decide) (by decide) (by unfold vp_in; decide) ?_
          rw [show AR 1 (Int32.toNatClampNeg 3) = nI ((l).getD 3 0) from hX.1.2 3 (by omega)]
          refine WX.s1 rfl rfl ?_
          refine WX.icmp rfl (fun c_51 => ?_) (fun c_51 => ?_)
          · skip
            have n_51 : ¬ ((l).getD 3 0) = 236 := fun zz_ => c_51 ((nI_eq (a := (l).getD 3 0) (b := 236) (by omega) (by omega)).mpr zz_)
            refine WX.s1 rfl rfl ?_
            exact t0 (fun z => by have q := (hfb).mp z; omega)
          · skip
            have n_51 : ((l).getD 3 0) = 236 := (nI_eq (a := (l).getD 3 0) (b := 236) (by omega) (by omega)).mp (Classical.not_not.mp c_51)
            refine WX.s1 rfl rfl ?_
            refine WX.s1 rfl rfl ?_
            exact t1 ((hfb).mpr ⟨by omega, by omega, by omega, by omega, by omega⟩)
theorem m_forgetL {d n s : Nat} {h : Nat → aE} {m : Nat} {I : Nat → Int32} {AR : Nat → Nat → Int32} {LN : Nat → Int64} {id way least : Nat} {l lo ld : List Nat} {T : PkS} {ab : Nat → Nat} (hm : m + 43 < n) (M_h : MAt h m I AR LN) (hX : RfX I AR id way least l lo ld T ab) {Ψ : Option Value → aH → Prop} (kk : ∀ h' I', Fr h h' (inM m) → MAt h' m I' AR LN → RfX I' AR 0 way least l lo [] stN ab → Ψ none (n, s, h')) : WO (mM (d + 1)) 214 [.ref m] (n, s, h) Ψ := by
  refine m_forget hm M_h (fun h' I' f M e => kk h' I' f M ?_)
  have g : ∀ q, q ≠ 7 → q ≠ 8 → q ≠ 9 → I' q = I q := fun q h7 h8 h9 => by rw [e, pk_un h9, pk_un h8, pk_un h7]
  refine (hX).lrn (g 3 (by decide) (by decide) (by decide)) (g 4 (by decide) (by decide) (by decide)) (g 5 (by decide) (by decide) (by decide)) (g 38 (by decide) (by decide) (by decide)) rfl rfl rfl ⟨(g 1 (by decide) (by decide) (by decide)).trans hX.1.1, hX.1.2⟩ ⟨?_, fun i hi => absurd hi (Nat.not_lt_zero i)⟩ ?_ (Or.inl ⟨?_, rfl⟩)
  · rw [e, pk_un (by decide), pk_un (by decide), pk_us]; rfl
  · rw [e, pk_un (by decide), pk_us]; rfl
  · rw [e, pk_us]
