/-! the reference on an empty IN (rows laid by a program) -/
theorem ge0 {c : Int32} (h : ¬ c < 1) : (0 : Int32) ≤ 0 + c := by
  have h1 : (1 : Int32) ≤ c := Int32.not_lt.mp h
  rw [Int32.zero_add]
  exact Int32.le_trans (by decide) h1
def Fi (I J : Nat → Int32) (A : Nat → Prop) : Prop := ∀ f, ¬ A f → J f = I f
theorem Fi.rf {I : Nat → Int32} {A : Nat → Prop} : Fi I I A := fun _ _ => rfl
theorem Fi.ztr {I J K : Nat → Int32} {A : Nat → Prop} (a : Fi I J A) (b : Fi J K A) : Fi I K A := fun f hf => (b f hf).trans (a f hf)
theorem Fi.zup {I J K : Nat → Int32} {A : Nat → Prop} {f : Nat} {v : Int32} (a : Fi I J A) (e : K = upd J f v) (hf : A f) : Fi I K A := fun g hg => by
  rw [e]
  exact (pk_un (fun q => hg (by rw [q]; exact hf))).trans (a g hg)
theorem Fi.zsub {I J K : Nat → Int32} {A B : Nat → Prop} (a : Fi I J A) (b : Fi J K B) (q : ∀ j, B j → A j) : Fi I K A := fun f hf => (b f (fun z => hf (q f z))).trans (a f hf)
theorem WX.mgetK {tb : aT} {o : aO} {Ψ : Option Value → aH → Prop} {pc : Nat} {L : aL} {S : List Value} {n s : Nat} {h : Nat → aE} {m : Nat} {I : Nat → Int32} {AR : Nat → Nat → Int32} {LN : Nat → Int64} {k nx : Nat} {x : Int32} (hh : tb pc = some (.inl (a_get 11 k nx))) (hm : m + 43 < n) (M : MAt h m I AR LN) (hv : (mObj m I)[k]? = some (.int (I k))) (K : I k = x) (kk : WX tb o Ψ nx L (.int x :: S) (n, s, h)) : WX tb o Ψ pc L (.ref m :: S) (n, s, h) := WX.mget hh hm M hv (by rw [K]; exact kk)
theorem MAt.zfr {h h2 : Nat → aE} {A : Nat → Prop} {m : Nat} {I : Nat → Int32} {AR : Nat → Nat → Int32} {LN : Nat → Int64} (M : MAt h m I AR LN) (f : Fr h h2 A) (hA : ∀ j, inM m j → ¬ A j) : MAt h2 m I AR LN := ⟨(f m (hA m ⟨by omega, by omega⟩)).trans M.1, fun c h1 h2 h3 => (f _ (hA _ ⟨by omega, by omega⟩)).trans (M.2.1 c h1 h2 h3), (f _ (hA _ ⟨by omega, by omega⟩)).trans M.2.2⟩
theorem MAt.rcv {n s : Nat} {h : Nat → aE} {m : Nat} {I : Nat → Int32} {AR : Nat → Nat → Int32} {LN : Nat → Int64} {vs : List Value} (M : MAt h m I AR LN) (hm : m + 43 < n) : rcv 12 (.ref m :: vs) (n, s, h) = true := rcv_ok (by omega) M.1
set_option maxRecDepth 20000 in
theorem m_say {d n s : Nat} {h : Nat → aE} {m : Nat} {I : Nat → Int32} {AR : Nat → Nat → Int32} {LN : Nat → Int64} {c : Nat} {v : Int32} (hm : m + 43 < n) (M_h : MAt h m I AR LN) (hc : c < 12000) (K_I_40 : I 40 = (nI c)) {Ψ : Option Value → aH → Prop} (kk : ∀ h' I' A', Fr h h' (inM m) → MAt h' m I' A' LN → Fi I I' (fun f => f = 40) → I' 40 = nI (c + 1) → Ψ none (n, s, h')) : WO (mM (d + 1)) 150 [.ref m, .int v] (n, s, h) Ψ := by
  refine WO.of (Nat.le_of_ble_eq_true rfl) ?_
  have FR_h : Fr h h (inM m) := Fr.rf
  have FI_I : Fi I I (fun f => f = 40) := Fi.rf
  show WX (lk tX12_say) (mM d) Ψ 0 [(0, .ref m), (1, .int v)] [] (n, s, h)
  refine WX.s1 rfl rfl ?_
  refine WX.mgetK (x := (nI c)) rfl hm M_h rfl K_I_40 ?_
  refine WX.s1 rfl rfl ?_
  refine WX.icmp rfl (fun c_7 => absurd c_7 (nI_ge (b := 12000) (by omega) (by omega))) (fun c_7 => ?_)
  refine WX.s1 rfl rfl ?_
  refine WX.mget rfl hm M_h rfl ?_
  refine WX.s1 rfl rfl ?_
  refine WX.mgetK (x := (nI c)) rfl hm M_h rfl K_I_40 ?_
  refine WX.s1 rfl rfl ?_
  refine WX.s1 rfl rfl ?_
  refine WX.s1 rfl rfl ?_
  refine WX.mast (c := 25) rfl hm M_h (by decide) (by decide) (by decide) (by decide) (vp_in_nI (N := 12000) (by omega) (by decide)) (fun h23n1 A23n1 e_A23n1 M_h23n1 frh23n1 => ?_)
  have FR_h23n1 := FR_h.ztr frh23n1
  clear M_h FR_h frh23n1 e_A23n1
  refine WX.s1 rfl rfl ?_
  refine WX.s1 rfl rfl ?_
  refine WX.mgetK (x := (nI c)) rfl hm M_h23n1 rfl K_I_40 ?_
  refine WX.s1 rfl rfl ?_
  refine WX.s1 rfl rfl ?_
  refine WX.mput rfl hm M_h23n1 (rfl) (by decide) (fun _ => rfl) (fun h31n2 I31n2 e_I31n2 M_h31n2 frh31n2 => ?_)
  have FR_h31n2 := FR_h23n1.ztr frh31n2
  have FI_I31n2 : Fi I I31n2 (fun f => f = 40) := FI_I.zup e_I31n2 (by first | exact rfl | decide | omega)
  have K_I31n2_40 : I31n2 40 = (nI (c + 1)) := by rw [e_I31n2]; exact pk_us.trans (nI_1 c)
  clear M_h23n1 FR_h23n1 FI_I e_I31n2 frh31n2 K_I_40
  exact WX.ret0 rfl (kk h31n2 I31n2 A23n1 FR_h31n2 M_h31n2 FI_I31n2 K_I31n2_40)
set_option maxRecDepth 20000 in
theorem m_sayNum {d n s : Nat} {h : Nat → aE} {m : Nat} {I : Nat → Int32} {AR : Nat → Nat → Int32} {LN : Nat → Int64} {c b : Nat} {v : Int64} (hm : m + 43 < n) (M_h : MAt h m I AR LN) (hb : b ≤ 8) (hc : c + b ≤ 12000) (K_I_40 : I 40 = (nI c)) {Ψ : Option Value → aH → Prop} (kk : ∀ h' I' A', Fr h h' (inM m) → MAt h' m I' A' LN → Fi I I' (fun f => f = 40) → I' 40 = nI (c + b) → Ψ none (n, s, h')) : WO (mM (d + 2)) 151 [.ref m, .long v, .int (nI b)] (n, s, h) Ψ := by
  refine WO.of (Nat.le_of_ble_eq_true rfl) ?_
  have FR_h : Fr h h (inM m) := Fr.rf
  have FI_I : Fi I I (fun f => f = 40) := Fi.rf
  show WX (lk tX12_sayNumber) (mM (d + 1)) Ψ 0 [(0, .ref m), (1, .long v), (3, .int (nI b))] [] (n, s, h)
  refine WX.s1 rfl rfl ?_
  refine WX.s1 (L' := [(0, .ref m), (1, .long v), (3, .int (nI b)), (4, .int 0)]) rfl rfl ?_
  have lp : ∀ (t i : Nat) (hL : Nat → aE) (IL : Nat → Int32) (AL : Nat → Nat → Int32), i + t = b → Fr h hL (inM m) → MAt hL m IL AL LN → Fi I IL (fun f => f = 40) → IL 40 = nI (c + i) → WX (lk tX12_sayNumber) (mM (d + 1)) Ψ 3 [(0, .ref m), (1, .long v), (3, .int (nI b)), (4, .int (nI i))] [] (n, s, hL) := by
    clear M_h FR_h FI_I K_I_40
    intro t
    induction t with
    | zero =>
      intro i hL IL AL ht FR_hL M_hL FI_IL K_IL_40
      obtain rfl : i = b := by omega
      refine WX.s1 rfl rfl ?_
      refine WX.s1 rfl rfl ?_
      refine WX.icmp rfl (fun c_6 => ?_) (fun c_6 => absurd (nI_le (Nat.le_refl _) (by omega)) c_6)
      exact WX.ret0 rfl (kk hL IL AL FR_hL M_hL FI_IL K_IL_40)
    | succ t ih =>
      intro i hL IL AL ht FR_hL M_hL FI_IL K_IL_40
      refine WX.s1 rfl rfl ?_
      refine WX.s1 rfl rfl ?_
      refine WX.icmp rfl (fun c_6 => absurd c_6 (nI_ge (by omega) (by omega))) (fun c_6 => ?_)
      refine WX.s1 rfl rfl ?_
      refine WX.s1 rfl rfl ?_
      refine WX.s1 rfl rfl ?_
      refine WX.s1 rfl rfl ?_
      refine WX.s1 rfl rfl ?_
      refine WX.s1 rfl rfl ?_
      refine WX.s1 rfl rfl ?_
      refine WX.s1 rfl rfl ?_
      refine WX.s1 rfl rfl ?_
      refine WX.callC (vs := [.ref m, .int _]) rfl rfl rfl (Nat.le_of_ble_eq_true rfl) (M_hL.rcv hm) ?_
      refine m_say hm M_hL (by omega) K_IL_40 (fun h22n1 I22n1 A22n1 fr22n1 M_h22n1 fi22n1 K_I22n1_40 => ?_)
      have FR_h22n1 := FR_hL.ztr fr22n1
      have FI_I22n1 : Fi I I22n1 (fun f => f = 40) := FI_IL.zsub fi22n1 (fun j hj => by first | exact hj | omega)
      clear M_hL FR_hL FI_IL fr22n1 fi22n1 K_IL_40
      show WX _ _ _ 25 [(0, .ref m), (1, .long v), (3, .int (nI b)), (4, .int (nI i))] [] (n, s, h22n1)
      refine WX.s1 (L' := [(0, .ref m), (1, .long v), (3, .int (nI b)), (4, .int ((nI i) + 1))]) rfl rfl ?_
      refine WX.s1 rfl rfl ?_
      rw [nI_1 i]
      exact ih (i + 1) h22n1 I22n1 A22n1 (by omega) FR_h22n1 M_h22n1 FI_I22n1 K_I22n1_40
  exact lp b 0 h I AR (by omega) FR_h M_h FI_I K_I_40
set_option maxRecDepth 20000 in
theorem m_keep {d n s : Nat} {h : Nat → aE} {m : Nat} {I : Nat → Int32} {AR : Nat → Nat → Int32} {LN : Nat → Int64} {tp : Int32} (hm : m + 43 < n) (M_h : MAt h m I AR LN)  (K_I_15 : I 15 = tp) {Ψ : Option Value → aH → Prop} (kk : ∀ h' I' A', Fr h h' (inM m) → MAt h' m I' A' LN → Fi I I' (fun f => f = 20) → I' 20 = tp → Ψ none (n, s, h')) : WO (mM (d + 1)) 203 [.ref m] (n, s, h) Ψ := by
  refine WO.of (Nat.le_of_ble_eq_true rfl) ?_
  have FR_h : Fr h h (inM m) := Fr.rf
  have FI_I : Fi I I (fun f => f = 20) := Fi.rf
  show WX (lk tX12_keep) (mM d) Ψ 0 [(0, .ref m)] [] (n, s, h)
  refine WX.s1 rfl rfl ?_
  refine WX.s1 (L' := [(0, .ref m), (1, .int 0)]) rfl rfl ?_
  have lp2 : ∀ (t i : Nat) (hL : Nat → aE) (AL : Nat → Nat → Int32), i + t = 256 → MAt hL m I AL LN → Fr h hL (inM m) → WX (lk tX12_keep) (mM d) Ψ 2 [(0, .ref m), (1, .int (nI i))] [] (n, s, hL) := by
    clear M_h FR_h
    intro t
    induction t with
    | zero =>
      intro i hL AL ht M_hL FR_hL
      refine WX.s1 rfl rfl ?_
      refine WX.s1 rfl rfl ?_
      refine WX.icmp rfl (fun c_6 => ?_) (fun c_6 => absurd (nI_le (a := 256) (by omega) (by omega)) c_6)
      refine WX.s1 rfl rfl ?_
      refine WX.s1 rfl rfl ?_
      refine WX.mgetK (x := tp) rfl hm M_hL rfl K_I_15 ?_
      refine WX.mput rfl hm M_hL (rfl) (by decide) (fun _ => rfl) (fun h32n1 I32n1 e_I32n1 M_h32n1 frh32n1 => ?_)
      have FR_h32n1 := FR_hL.ztr frh32n1
      have FI_I32n1 : Fi I I32n1 (fun f => f = 20) := FI_I.zup e_I32n1 (by first | exact rfl | decide | omega)
      have K_I32n1_15 : I32n1 15 = tp := by rw [e_I32n1]; exact (pk_un (by decide)).trans K_I_15
      have K_I32n1_20 : I32n1 20 = tp := by rw [e_I32n1]; exact pk_us
      clear M_hL FR_hL FI_I e_I32n1 frh32n1 K_I_15
      refine WX.s1 rfl rfl ?_
      refine WX.s1 (L' := [(0, .ref m), (1, .int 0)]) rfl rfl ?_
      have lp37 : ∀ (t i : Nat) (hL : Nat → aE) (AL : Nat → Nat → Int32), i + t = 192 → MAt hL m I32n1 AL LN → Fr h hL (inM m) → WX (lk tX12_keep) (mM d) Ψ 37 [(0, .ref m), (1, .int (nI i))] [] (n, s, hL) := by
        clear M_h32n1 FR_h32n1
        intro t
        induction t with
        | zero =>
          intro i hL AL ht M_hL FR_hL
          refine WX.s1 rfl rfl ?_
          refine WX.s1 rfl rfl ?_
          refine WX.icmp rfl (fun c_41 => ?_) (fun c_41 => absurd (nI_le (a := 192) (by omega) (by omega)) c_41)
          refine WX.s1 rfl rfl ?_
          refine WX.s1 (L' := [(0, .ref m), (1, .int 0)]) rfl rfl ?_
          have lp64 : ∀ (t i : Nat) (hL : Nat → aE) (AL : Nat → Nat → Int32), i + t = 3 → MAt hL m I32n1 AL LN → Fr h hL (inM m) → WX (lk tX12_keep) (mM d) Ψ 64 [(0, .ref m), (1, .int (nI i))] [] (n, s, hL) := by
            clear M_hL FR_hL
            intro t
            induction t with
            | zero =>
              intro i hL AL ht M_hL FR_hL
              refine WX.s1 rfl rfl ?_
              refine WX.s1 rfl rfl ?_
              refine WX.icmp rfl (fun c_66 => ?_) (fun c_66 => absurd (nI_le (a := 3) (by omega) (by omega)) c_66)
              exact WX.ret0 rfl (kk hL I32n1 AL FR_hL M_hL FI_I32n1 K_I32n1_20)
            | succ t ih =>
              intro i hL AL ht M_hL FR_hL
              refine WX.s1 rfl rfl ?_
              refine WX.s1 rfl rfl ?_
              refine WX.icmp rfl (fun c_66 => absurd c_66 (nI_ge (b := 3) (by omega) (by omega))) (fun c_66 => ?_)
              refine WX.s1 rfl rfl ?_
              refine WX.mget rfl hm M_hL rfl ?_
              refine WX.s1 rfl rfl ?_
              refine WX.s1 rfl rfl ?_
              refine WX.mget rfl hm M_hL rfl ?_
              refine WX.s1 rfl rfl ?_
              refine WX.mald (c := 10) rfl hm M_hL (by decide) (by decide) (by decide) (by decide) (vp_in_nI (N := 3) (by omega) (by decide)) ?_
              refine WX.mast (c := 14) rfl hm M_hL (by decide) (by decide) (by decide) (by decide) (vp_in_nI (N := 3) (by omega) (by decide)) (fun h80n2 A80n2 e_A80n2 M_h80n2 frh80n2 => ?_)
              have FR_h80n2 := FR_hL.ztr frh80n2
              clear M_hL FR_hL frh80n2 e_A80n2
              refine WX.s1 rfl rfl ?_
              refine WX.mget rfl hm M_h80n2 rfl ?_
              refine WX.s1 rfl rfl ?_
              refine WX.s1 rfl rfl ?_
              refine WX.mget rfl hm M_h80n2 rfl ?_
              refine WX.s1 rfl rfl ?_
              refine WX.mald (c := 11) rfl hm M_h80n2 (by decide) (by decide) (by decide) (by decide) (vp_in_nI (N := 3) (by omega) (by decide)) ?_
              refine WX.mast (c := 15) rfl hm M_h80n2 (by decide) (by decide) (by decide) (by decide) (vp_in_nI (N := 3) (by omega) (by decide)) (fun h92n3 A92n3 e_A92n3 M_h92n3 frh92n3 => ?_)
              have FR_h92n3 := FR_h80n2.ztr frh92n3
              clear M_h80n2 FR_h80n2 frh92n3 e_A92n3
              refine WX.s1 (L' := [(0, .ref m), (1, .int ((nI i) + 1))]) rfl rfl ?_
              refine WX.s1 rfl rfl ?_
              rw [nI_1 i]
              exact ih (i + 1) h92n3 A92n3 (by omega) M_h92n3 FR_h92n3
          exact lp64 3 0 hL AL (by omega) M_hL FR_hL
        | succ t ih =>
          intro i hL AL ht M_hL FR_hL
          refine WX.s1 rfl rfl ?_
          refine WX.s1 rfl rfl ?_
          refine WX.icmp rfl (fun c_41 => absurd c_41 (nI_ge (b := 192) (by omega) (by omega))) (fun c_41 => ?_)
          refine WX.s1 rfl rfl ?_
          refine WX.mget rfl hm M_hL rfl ?_
          refine WX.s1 rfl rfl ?_
          refine WX.s1 rfl rfl ?_
          refine WX.mget rfl hm M_hL rfl ?_
          refine WX.s1 rfl rfl ?_
          refine WX.mald (c := 9) rfl hm M_hL (by decide) (by decide) (by decide) (by decide) (vp_in_nI (N := 192) (by omega) (by decide)) ?_
          refine WX.mast (c := 13) rfl hm M_hL (by decide) (by decide) (by decide) (by decide) (vp_in_nI (N := 192) (by omega) (by decide)) (fun h55n4 A55n4 e_A55n4 M_h55n4 frh55n4 => ?_)
          have FR_h55n4 := FR_hL.ztr frh55n4
          clear M_hL FR_hL frh55n4 e_A55n4
          refine WX.s1 (L' := [(0, .ref m), (1, .int ((nI i) + 1))]) rfl rfl ?_
          refine WX.s1 rfl rfl ?_
          rw [nI_1 i]
          exact ih (i + 1) h55n4 A55n4 (by omega) M_h55n4 FR_h55n4
      exact lp37 192 0 h32n1 AL (by omega) M_h32n1 FR_h32n1
    | succ t ih =>
      intro i hL AL ht M_hL FR_hL
      refine WX.s1 rfl rfl ?_
      refine WX.s1 rfl rfl ?_
      refine WX.icmp rfl (fun c_6 => absurd c_6 (nI_ge (b := 256) (by omega) (by omega))) (fun c_6 => ?_)
      refine WX.s1 rfl rfl ?_
      refine WX.mget rfl hm M_hL rfl ?_
      refine WX.s1 rfl rfl ?_
      refine WX.s1 rfl rfl ?_
      refine WX.mget rfl hm M_hL rfl ?_
      refine WX.s1 rfl rfl ?_
      refine WX.mald (c := 8) rfl hm M_hL (by decide) (by decide) (by decide) (by decide) (vp_in_nI (N := 256) (by omega) (by decide)) ?_
      refine WX.mast (c := 12) rfl hm M_hL (by decide) (by decide) (by decide) (by decide) (vp_in_nI (N := 256) (by omega) (by decide)) (fun h20n5 A20n5 e_A20n5 M_h20n5 frh20n5 => ?_)
      have FR_h20n5 := FR_hL.ztr frh20n5
      clear M_hL FR_hL frh20n5 e_A20n5
      refine WX.s1 (L' := [(0, .ref m), (1, .int ((nI i) + 1))]) rfl rfl ?_
      refine WX.s1 rfl rfl ?_
      rw [nI_1 i]
      exact ih (i + 1) h20n5 A20n5 (by omega) M_h20n5 FR_h20n5
  exact lp2 256 0 h AR (by omega) M_h FR_h
set_option maxRecDepth 20000 in
theorem m_restore {d n s : Nat} {h : Nat → aE} {m : Nat} {I : Nat → Int32} {AR : Nat → Nat → Int32} {LN : Nat → Int64} {tp : Int32} (hm : m + 43 < n) (M_h : MAt h m I AR LN)  (K_I_20 : I 20 = tp) {Ψ : Option Value → aH → Prop} (kk : ∀ h' I' A', Fr h h' (inM m) → MAt h' m I' A' LN → Fi I I' (fun f => f = 15) → I' 15 = tp → Ψ none (n, s, h')) : WO (mM (d + 1)) 204 [.ref m] (n, s, h) Ψ := by
  refine WO.of (Nat.le_of_ble_eq_true rfl) ?_
  have FR_h : Fr h h (inM m) := Fr.rf
  have FI_I : Fi I I (fun f => f = 15) := Fi.rf
  show WX (lk tX12_restore) (mM d) Ψ 0 [(0, .ref m)] [] (n, s, h)
  refine WX.s1 rfl rfl ?_
  refine WX.s1 (L' := [(0, .ref m), (1, .int 0)]) rfl rfl ?_
  have lp2 : ∀ (t i : Nat) (hL : Nat → aE) (AL : Nat → Nat → Int32), i + t = 256 → MAt hL m I AL LN → Fr h hL (inM m) → WX (lk tX12_restore) (mM d) Ψ 2 [(0, .ref m), (1, .int (nI i))] [] (n, s, hL) := by
    clear M_h FR_h
    intro t
    induction t with
    | zero =>
      intro i hL AL ht M_hL FR_hL
      refine WX.s1 rfl rfl ?_
      refine WX.s1 rfl rfl ?_
      refine WX.icmp rfl (fun c_6 => ?_) (fun c_6 => absurd (nI_le (a := 256) (by omega) (by omega)) c_6)
      refine WX.s1 rfl rfl ?_
      refine WX.s1 rfl rfl ?_
      refine WX.mgetK (x := tp) rfl hm M_hL rfl K_I_20 ?_
      refine WX.mput rfl hm M_hL (rfl) (by decide) (fun _ => rfl) (fun h32n1 I32n1 e_I32n1 M_h32n1 frh32n1 => ?_)
      have FR_h32n1 := FR_hL.ztr frh32n1
      have FI_I32n1 : Fi I I32n1 (fun f => f = 15) := FI_I.zup e_I32n1 (by first | exact rfl | decide | omega)
      have K_I32n1_20 : I32n1 20 = tp := by rw [e_I32n1]; exact (pk_un (by decide)).trans K_I_20
      have K_I32n1_15 : I32n1 15 = tp := by rw [e_I32n1]; exact pk_us
      clear M_hL FR_hL FI_I e_I32n1 frh32n1 K_I_20
      refine WX.s1 rfl rfl ?_
      refine WX.s1 (L' := [(0, .ref m), (1, .int 0)]) rfl rfl ?_
      have lp37 : ∀ (t i : Nat) (hL : Nat → aE) (AL : Nat → Nat → Int32), i + t = 192 → MAt hL m I32n1 AL LN → Fr h hL (inM m) → WX (lk tX12_restore) (mM d) Ψ 37 [(0, .ref m), (1, .int (nI i))] [] (n, s, hL) := by
        clear M_h32n1 FR_h32n1
        intro t
        induction t with
        | zero =>
          intro i hL AL ht M_hL FR_hL
          refine WX.s1 rfl rfl ?_
          refine WX.s1 rfl rfl ?_
          refine WX.icmp rfl (fun c_41 => ?_) (fun c_41 => absurd (nI_le (a := 192) (by omega) (by omega)) c_41)
          refine WX.s1 rfl rfl ?_
          refine WX.s1 (L' := [(0, .ref m), (1, .int 0)]) rfl rfl ?_
          have lp64 : ∀ (t i : Nat) (hL : Nat → aE) (AL : Nat → Nat → Int32), i + t = 3 → MAt hL m I32n1 AL LN → Fr h hL (inM m) → WX (lk tX12_restore) (mM d) Ψ 64 [(0, .ref m), (1, .int (nI i))] [] (n, s, hL) := by
            clear M_hL FR_hL
            intro t
            induction t with
            | zero =>
              intro i hL AL ht M_hL FR_hL
              refine WX.s1 rfl rfl ?_
              refine WX.s1 rfl rfl ?_
              refine WX.icmp rfl (fun c_66 => ?_) (fun c_66 => absurd (nI_le (a := 3) (by omega) (by omega)) c_66)
              exact WX.ret0 rfl (kk hL I32n1 AL FR_hL M_hL FI_I32n1 K_I32n1_15)
            | succ t ih =>
              intro i hL AL ht M_hL FR_hL
              refine WX.s1 rfl rfl ?_
              refine WX.s1 rfl rfl ?_
              refine WX.icmp rfl (fun c_66 => absurd c_66 (nI_ge (b := 3) (by omega) (by omega))) (fun c_66 => ?_)
              refine WX.s1 rfl rfl ?_
              refine WX.mget rfl hm M_hL rfl ?_
              refine WX.s1 rfl rfl ?_
              refine WX.s1 rfl rfl ?_
              refine WX.mget rfl hm M_hL rfl ?_
              refine WX.s1 rfl rfl ?_
              refine WX.mald (c := 14) rfl hm M_hL (by decide) (by decide) (by decide) (by decide) (vp_in_nI (N := 3) (by omega) (by decide)) ?_
              refine WX.mast (c := 10) rfl hm M_hL (by decide) (by decide) (by decide) (by decide) (vp_in_nI (N := 3) (by omega) (by decide)) (fun h80n2 A80n2 e_A80n2 M_h80n2 frh80n2 => ?_)
              have FR_h80n2 := FR_hL.ztr frh80n2
              clear M_hL FR_hL frh80n2 e_A80n2
              refine WX.s1 rfl rfl ?_
              refine WX.mget rfl hm M_h80n2 rfl ?_
              refine WX.s1 rfl rfl ?_
              refine WX.s1 rfl rfl ?_
              refine WX.mget rfl hm M_h80n2 rfl ?_
              refine WX.s1 rfl rfl ?_
              refine WX.mald (c := 15) rfl hm M_h80n2 (by decide) (by decide) (by decide) (by decide) (vp_in_nI (N := 3) (by omega) (by decide)) ?_
              refine WX.mast (c := 11) rfl hm M_h80n2 (by decide) (by decide) (by decide) (by decide) (vp_in_nI (N := 3) (by omega) (by decide)) (fun h92n3 A92n3 e_A92n3 M_h92n3 frh92n3 => ?_)
              have FR_h92n3 := FR_h80n2.ztr frh92n3
              clear M_h80n2 FR_h80n2 frh92n3 e_A92n3
              refine WX.s1 (L' := [(0, .ref m), (1, .int ((nI i) + 1))]) rfl rfl ?_
              refine WX.s1 rfl rfl ?_
              rw [nI_1 i]
              exact ih (i + 1) h92n3 A92n3 (by omega) M_h92n3 FR_h92n3
          exact lp64 3 0 hL AL (by omega) M_hL FR_hL
        | succ t ih =>
          intro i hL AL ht M_hL FR_hL
          refine WX.s1 rfl rfl ?_
          refine WX.s1 rfl rfl ?_
          refine WX.icmp rfl (fun c_41 => absurd c_41 (nI_ge (b := 192) (by omega) (by omega))) (fun c_41 => ?_)
          refine WX.s1 rfl rfl ?_
          refine WX.mget rfl hm M_hL rfl ?_
          refine WX.s1 rfl rfl ?_
          refine WX.s1 rfl rfl ?_
          refine WX.mget rfl hm M_hL rfl ?_
          refine WX.s1 rfl rfl ?_
          refine WX.mald (c := 13) rfl hm M_hL (by decide) (by decide) (by decide) (by decide) (vp_in_nI (N := 192) (by omega) (by decide)) ?_
          refine WX.mast (c := 9) rfl hm M_hL (by decide) (by decide) (by decide) (by decide) (vp_in_nI (N := 192) (by omega) (by decide)) (fun h55n4 A55n4 e_A55n4 M_h55n4 frh55n4 => ?_)
          have FR_h55n4 := FR_hL.ztr frh55n4
          clear M_hL FR_hL frh55n4 e_A55n4
          refine WX.s1 (L' := [(0, .ref m), (1, .int ((nI i) + 1))]) rfl rfl ?_
          refine WX.s1 rfl rfl ?_
          rw [nI_1 i]
          exact ih (i + 1) h55n4 A55n4 (by omega) M_h55n4 FR_h55n4
      exact lp37 192 0 h32n1 AL (by omega) M_h32n1 FR_h32n1
    | succ t ih =>
      intro i hL AL ht M_hL FR_hL
      refine WX.s1 rfl rfl ?_
      refine WX.s1 rfl rfl ?_
      refine WX.icmp rfl (fun c_6 => absurd c_6 (nI_ge (b := 256) (by omega) (by omega))) (fun c_6 => ?_)
      refine WX.s1 rfl rfl ?_
      refine WX.mget rfl hm M_hL rfl ?_
      refine WX.s1 rfl rfl ?_
      refine WX.s1 rfl rfl ?_
      refine WX.mget rfl hm M_hL rfl ?_
      refine WX.s1 rfl rfl ?_
      refine WX.mald (c := 12) rfl hm M_hL (by decide) (by decide) (by decide) (by decide) (vp_in_nI (N := 256) (by omega) (by decide)) ?_
      refine WX.mast (c := 8) rfl hm M_hL (by decide) (by decide) (by decide) (by decide) (vp_in_nI (N := 256) (by omega) (by decide)) (fun h20n5 A20n5 e_A20n5 M_h20n5 frh20n5 => ?_)
      have FR_h20n5 := FR_hL.ztr frh20n5
      clear M_hL FR_hL frh20n5 e_A20n5
      refine WX.s1 (L' := [(0, .ref m), (1, .int ((nI i) + 1))]) rfl rfl ?_
      refine WX.s1 rfl rfl ?_
      rw [nI_1 i]
      exact ih (i + 1) h20n5 A20n5 (by omega) M_h20n5 FR_h20n5
  exact lp2 256 0 h AR (by omega) M_h FR_h
set_option maxRecDepth 20000 in
theorem m_begf {d n s : Nat} {h : Nat → aE} {m : Nat} {I : Nat → Int32} {AR : Nat → Nat → Int32} {LN : Nat → Int64}  (hm : m + 43 < n) (M_h : MAt h m I AR LN)  (K_I_9 : I 9 = 0) {Ψ : Option Value → aH → Prop} (kk : ∀ h' I' A', Fr h h' (inM m) → MAt h' m I' A' LN → Fi I I' (fun f => f = 15) → I' 15 = 0 → Ψ none (n, s, h')) : WO (mM (d + 1)) 205 [.ref m] (n, s, h) Ψ := by
  refine WO.of (Nat.le_of_ble_eq_true rfl) ?_
  have FR_h : Fr h h (inM m) := Fr.rf
  have FI_I : Fi I I (fun f => f = 15) := Fi.rf
  show WX (lk tX12_beginFrame) (mM d) Ψ 0 [(0, .ref m)] [] (n, s, h)
  refine WX.s1 rfl rfl ?_
  refine WX.s1 rfl rfl ?_
  refine WX.mput rfl hm M_h (rfl) (by decide) (fun _ => rfl) (fun h2n1 I2n1 e_I2n1 M_h2n1 frh2n1 => ?_)
  have FR_h2n1 := FR_h.ztr frh2n1
  have FI_I2n1 : Fi I I2n1 (fun f => f = 15) := FI_I.zup e_I2n1 (by first | exact rfl | decide | omega)
  have K_I2n1_9 : I2n1 9 = 0 := by rw [e_I2n1]; exact (pk_un (by decide)).trans K_I_9
  have K_I2n1_15 : I2n1 15 = 0 := by rw [e_I2n1]; exact pk_us
  clear M_h FR_h FI_I e_I2n1 frh2n1 K_I_9
  refine WX.s1 rfl rfl ?_
  refine WX.s1 (L' := [(0, .ref m), (1, .int 0)]) rfl rfl ?_
  refine WX.s1 rfl rfl ?_
  refine WX.s1 rfl rfl ?_
  refine WX.icmp rfl (fun c_9 => absurd c_9 (by decide)) (fun c_9 => ?_)
  clear c_9
  refine WX.s1 rfl rfl ?_
  refine WX.mget rfl hm M_h2n1 rfl ?_
  refine WX.s1 rfl rfl ?_
  refine WX.s1 rfl rfl ?_
  refine WX.mast (c := 10) rfl hm M_h2n1 (by decide) (by decide) (by decide) (by decide) (by unfold vp_in; decide) (fun h18n2 A18n2 e_A18n2 M_h18n2 frh18n2 => ?_)
  have FR_h18n2 := FR_h2n1.ztr frh18n2
  clear M_h2n1 FR_h2n1 frh18n2 e_A18n2
  refine WX.s1 rfl rfl ?_
  refine WX.mget rfl hm M_h18n2 rfl ?_
  refine WX.s1 rfl rfl ?_
  refine WX.s1 rfl rfl ?_
  refine WX.if_ rfl (fun c_25 => absurd c_25 (by decide)) (fun c_25 => ?_)
  clear c_25
  refine WX.s1 rfl rfl ?_
  refine WX.s1 rfl rfl ?_
  refine WX.mast (c := 11) rfl hm M_h18n2 (by decide) (by decide) (by decide) (by decide) (by unfold vp_in; decide) (fun h35n3 A35n3 e_A35n3 M_h35n3 frh35n3 => ?_)
  have FR_h35n3 := FR_h18n2.ztr frh35n3
  clear M_h18n2 FR_h18n2 frh35n3 e_A35n3
  refine WX.s1 (L' := [(0, .ref m), (1, .int (0 + 1))]) rfl rfl ?_
  refine WX.s1 rfl rfl ?_
  refine WX.s1 rfl rfl ?_
  refine WX.s1 rfl rfl ?_
  refine WX.icmp rfl (fun c_9 => absurd c_9 (by decide)) (fun c_9 => ?_)
  clear c_9
  refine WX.s1 rfl rfl ?_
  refine WX.mget rfl hm M_h35n3 rfl ?_
  refine WX.s1 rfl rfl ?_
  refine WX.s1 rfl rfl ?_
  refine WX.mast (c := 10) rfl hm M_h35n3 (by decide) (by decide) (by decide) (by decide) (by unfold vp_in; decide) (fun h18n4 A18n4 e_A18n4 M_h18n4 frh18n4 => ?_)
  have FR_h18n4 := FR_h35n3.ztr frh18n4
  clear M_h35n3 FR_h35n3 frh18n4 e_A18n4
  refine WX.s1 rfl rfl ?_
  refine WX.mget rfl hm M_h18n4 rfl ?_
  refine WX.s1 rfl rfl ?_
  refine WX.s1 rfl rfl ?_
  refine WX.if_ rfl (fun c_25 => ?_) (fun c_25 => absurd (by decide) c_25)
  clear c_25
  refine WX.s1 rfl rfl ?_
  refine WX.s1 rfl rfl ?_
  refine WX.s1 rfl rfl ?_
  refine WX.mast (c := 11) rfl hm M_h18n4 (by decide) (by decide) (by decide) (by decide) (by unfold vp_in; decide) (fun h35n5 A35n5 e_A35n5 M_h35n5 frh35n5 => ?_)
  have FR_h35n5 := FR_h18n4.ztr frh35n5
  clear M_h18n4 FR_h18n4 frh35n5 e_A35n5
  refine WX.s1 (L' := [(0, .ref m), (1, .int ((0 + 1) + 1))]) rfl rfl ?_
  refine WX.s1 rfl rfl ?_
  refine WX.s1 rfl rfl ?_
  refine WX.s1 rfl rfl ?_
  refine WX.icmp rfl (fun c_9 => absurd c_9 (by decide)) (fun c_9 => ?_)
  clear c_9
  refine WX.s1 rfl rfl ?_
  refine WX.mget rfl hm M_h35n5 rfl ?_
  refine WX.s1 rfl rfl ?_
  refine WX.s1 rfl rfl ?_
  refine WX.mast (c := 10) rfl hm M_h35n5 (by decide) (by decide) (by decide) (by decide) (by unfold vp_in; decide) (fun h18n6 A18n6 e_A18n6 M_h18n6 frh18n6 => ?_)
  have FR_h18n6 := FR_h35n5.ztr frh18n6
  clear M_h35n5 FR_h35n5 frh18n6 e_A18n6
  refine WX.s1 rfl rfl ?_
  refine WX.mget rfl hm M_h18n6 rfl ?_
  refine WX.s1 rfl rfl ?_
  refine WX.s1 rfl rfl ?_
  refine WX.if_ rfl (fun c_25 => ?_) (fun c_25 => absurd (by decide) c_25)
  clear c_25
  refine WX.s1 rfl rfl ?_
  refine WX.s1 rfl rfl ?_
  refine WX.s1 rfl rfl ?_
  refine WX.mast (c := 11) rfl hm M_h18n6 (by decide) (by decide) (by decide) (by decide) (by unfold vp_in; decide) (fun h35n7 A35n7 e_A35n7 M_h35n7 frh35n7 => ?_)
  have FR_h35n7 := FR_h18n6.ztr frh35n7
  clear M_h18n6 FR_h18n6 frh35n7 e_A35n7
  refine WX.s1 (L' := [(0, .ref m), (1, .int (((0 + 1) + 1) + 1))]) rfl rfl ?_
  refine WX.s1 rfl rfl ?_
  refine WX.s1 rfl rfl ?_
  refine WX.s1 rfl rfl ?_
  refine WX.icmp rfl (fun c_9 => ?_) (fun c_9 => absurd (by decide) c_9)
  clear c_9
  refine WX.s1 rfl rfl ?_
  refine WX.mgetK (x := 0) rfl hm M_h35n7 rfl K_I2n1_9 ?_
  refine WX.if_ rfl (fun c_46 => absurd c_46 (by decide)) (fun c_46 => ?_)
  clear c_46
  exact WX.ret0 rfl (kk h35n7 I2n1 A35n7 FR_h35n7 M_h35n7 FI_I2n1 K_I2n1_15)
set_option maxRecDepth 20000 in
theorem m_go0 {d n s : Nat} {h : Nat → aE} {m : Nat} {I : Nat → Int32} {AR : Nat → Nat → Int32} {LN : Nat → Int64}  (hm : m + 43 < n) (M_h : MAt h m I AR LN)  (K_I_25 : I 25 = 0) {Ψ : Option Value → aH → Prop} (kk : ∀ h' I' A', Fr h h' (inM m) → MAt h' m I' A' LN → Fi I I' (fun f => f = 31 ∨ f = 33) → I' 31 = 0 → I' 33 = 0 → Ψ none (n, s, h')) : WO (mM (d + 1)) 157 [.ref m, .int (0 + 0)] (n, s, h) Ψ := by
  refine WO.of (Nat.le_of_ble_eq_true rfl) ?_
  have FR_h : Fr h h (inM m) := Fr.rf
  have FI_I : Fi I I (fun f => f = 31 ∨ f = 33) := Fi.rf
  show WX (lk tX12_go) (mM d) Ψ 0 [(0, .ref m), (1, .int (0 + 0))] [] (n, s, h)
  refine WX.s1 rfl rfl ?_
  refine WX.s1 rfl rfl ?_
  refine WX.mput rfl hm M_h (rfl) (by decide) (fun _ => rfl) (fun h2n1 I2n1 e_I2n1 M_h2n1 frh2n1 => ?_)
  have FR_h2n1 := FR_h.ztr frh2n1
  have FI_I2n1 : Fi I I2n1 (fun f => f = 31 ∨ f = 33) := FI_I.zup e_I2n1 (by first | exact rfl | decide | omega)
  have K_I2n1_25 : I2n1 25 = 0 := by rw [e_I2n1]; exact (pk_un (by decide)).trans K_I_25
  have K_I2n1_31 : I2n1 31 = 0 := by rw [e_I2n1]; exact pk_us
  clear M_h FR_h FI_I e_I2n1 frh2n1 K_I_25
  refine WX.s1 rfl rfl ?_
  refine WX.s1 rfl rfl ?_
  refine WX.mput rfl hm M_h2n1 (rfl) (by decide) (fun _ => rfl) (fun h7n2 I7n2 e_I7n2 M_h7n2 frh7n2 => ?_)
  have FR_h7n2 := FR_h2n1.ztr frh7n2
  have FI_I7n2 : Fi I I7n2 (fun f => f = 31 ∨ f = 33) := FI_I2n1.zup e_I7n2 (by first | exact rfl | decide | omega)
  have K_I7n2_25 : I7n2 25 = 0 := by rw [e_I7n2]; exact (pk_un (by decide)).trans K_I2n1_25
  have K_I7n2_31 : I7n2 31 = 0 := by rw [e_I7n2]; exact (pk_un (by decide)).trans K_I2n1_31
  have K_I7n2_33 : I7n2 33 = 0 := by rw [e_I7n2]; exact pk_us
  clear M_h2n1 FR_h2n1 FI_I2n1 e_I7n2 frh7n2 K_I2n1_25 K_I2n1_31
  refine WX.s1 rfl rfl ?_
  refine WX.s1 (L' := [(0, .ref m), (1, .int (0 + 0)), (2, .int 0)]) rfl rfl ?_
  refine WX.s1 rfl rfl ?_
  refine WX.s1 (L' := [(0, .ref m), (1, .int (0 + 0)), (2, .int 0), (3, .int (0 + 0))]) rfl rfl ?_
  refine WX.s1 rfl rfl ?_
  refine WX.s1 rfl rfl ?_
  refine WX.mgetK (x := 0) rfl hm M_h7n2 rfl K_I7n2_25 ?_
  refine WX.icmp rfl (fun c_19 => ?_) (fun c_19 => absurd (by decide) c_19)
  clear c_19
  exact WX.ret0 rfl (kk h7n2 I7n2 AR FR_h7n2 M_h7n2 FI_I7n2 K_I7n2_31 K_I7n2_33)
set_option maxRecDepth 20000 in
theorem m_alike0 {d n s : Nat} {h : Nat → aE} {m : Nat} {I : Nat → Int32} {AR : Nat → Nat → Int32} {LN : Nat → Int64}  (hm : m + 43 < n) (M_h : MAt h m I AR LN)  (K_I_33 : I 33 = 0) {Ψ : Option Value → aH → Prop} (kk : Ψ (some (.int 0)) (n, s, h)) : WO (mM (d + 1)) 190 [.ref m] (n, s, h) Ψ := by
  refine WO.of (Nat.le_of_ble_eq_true rfl) ?_
  have FR_h : Fr h h (inM m) := Fr.rf
  have FI_I : Fi I I (fun f => f = 40) := Fi.rf
  show WX (lk tX12_allAlike) (mM d) Ψ 0 [(0, .ref m)] [] (n, s, h)
  refine WX.s1 rfl rfl ?_
  refine WX.s1 (L' := [(0, .ref m), (1, .int 1)]) rfl rfl ?_
  refine WX.s1 rfl rfl ?_
  refine WX.s1 rfl rfl ?_
  refine WX.mgetK (x := 0) rfl hm M_h rfl K_I_33 ?_
  refine WX.icmp rfl (fun c_7 => ?_) (fun c_7 => absurd (by decide) c_7)
  clear c_7
  refine WX.s1 rfl rfl ?_
  refine WX.mgetK (x := 0) rfl hm M_h rfl K_I_33 ?_
  refine WX.if_ rfl (fun c_37 => ?_) (fun c_37 => absurd (by decide) c_37)
  clear c_37
  refine WX.s1 rfl rfl ?_
  exact WX.ret3 rfl (Or.inl rfl) kk
set_option maxRecDepth 20000 in
theorem m_coded0 {d n s : Nat} {h : Nat → aE} {m : Nat} {I : Nat → Int32} {AR : Nat → Nat → Int32} {LN : Nat → Int64}  (hm : m + 43 < n) (M_h : MAt h m I AR LN)  (K_I_33 : I 33 = 0) (K_I_15 : I 15 = 0) {Ψ : Option Value → aH → Prop} (kk : Ψ (some (.int 0)) (n, s, h)) : WO (mM (d + 1)) 191 [.ref m] (n, s, h) Ψ := by
  refine WO.of (Nat.le_of_ble_eq_true rfl) ?_
  have FR_h : Fr h h (inM m) := Fr.rf
  have FI_I : Fi I I (fun f => f = 40) := Fi.rf
  show WX (lk tX12_allCoded) (mM d) Ψ 0 [(0, .ref m)] [] (n, s, h)
  refine WX.s1 rfl rfl ?_
  refine WX.s1 (L' := [(0, .ref m), (1, .int 0)]) rfl rfl ?_
  refine WX.s1 rfl rfl ?_
  refine WX.s1 rfl rfl ?_
  refine WX.mgetK (x := 0) rfl hm M_h rfl K_I_33 ?_
  refine WX.icmp rfl (fun c_7 => ?_) (fun c_7 => absurd (by decide) c_7)
  clear c_7
  refine WX.s1 rfl rfl ?_
  refine WX.mgetK (x := 0) rfl hm M_h rfl K_I_15 ?_
  refine WX.if_ rfl (fun c_36 => ?_) (fun c_36 => absurd (by decide) c_36)
  clear c_36
  refine WX.s1 rfl rfl ?_
  exact WX.ret3 rfl (Or.inl rfl) kk
set_option maxRecDepth 20000 in
theorem m_lits0 {d n s : Nat} {h : Nat → aE} {m : Nat} {I : Nat → Int32} {AR : Nat → Nat → Int32} {LN : Nat → Int64} {c : Nat} (hm : m + 43 < n) (M_h : MAt h m I AR LN) (hc : c + 1 ≤ 12000) (K_I_33 : I 33 = 0) (K_I_15 : I 15 = 0) (K_I_40 : I 40 = (nI c)) {Ψ : Option Value → aH → Prop} (kk : ∀ h' I' A', Fr h h' (inM m) → MAt h' m I' A' LN → Fi I I' (fun f => f = 40) → I' 40 = nI (c + 1) → Ψ (some (.int 0)) (n, s, h')) : WO (mM (d + 3)) 192 [.ref m] (n, s, h) Ψ := by
  refine WO.of (Nat.le_of_ble_eq_true rfl) ?_
  have FR_h : Fr h h (inM m) := Fr.rf
  have FI_I : Fi I I (fun f => f = 40) := Fi.rf
  show WX (lk tX12_sayLiterals) (mM (d + 2)) Ψ 0 [(0, .ref m)] [] (n, s, h)
  refine WX.s1 rfl rfl ?_
  refine WX.mgetK (x := 0) rfl hm M_h rfl K_I_33 ?_
  refine WX.s1 (L' := [(0, .ref m), (1, .int 0)]) rfl rfl ?_
  refine WX.s1 rfl rfl ?_
  refine WX.s1 rfl rfl ?_
  refine WX.icmp rfl (fun c_8 => absurd c_8 (by decide)) (fun c_8 => ?_)
  clear c_8
  refine WX.s1 rfl rfl ?_
  refine WX.s1 rfl rfl ?_
  refine WX.s1 (L' := [(0, .ref m), (1, .int 0), (2, .int 1)]) rfl rfl ?_
  refine WX.s1 rfl rfl ?_
  refine WX.s1 rfl rfl ?_
  refine WX.s1 rfl rfl ?_
  refine WX.s1 (L' := [(0, .ref m), (1, .int 0), (2, .int 1), (3, .int (1 + 0))]) rfl rfl ?_
  refine WX.s1 rfl rfl ?_
  refine WX.s1 (L' := [(0, .ref m), (1, .int 0), (2, .int 1), (3, .int (1 + 0)), (4, .int 0)]) rfl rfl ?_
  refine WX.s1 rfl rfl ?_
  refine WX.callC (vs := [.ref m]) rfl rfl rfl (Nat.le_of_ble_eq_true rfl) (M_h.rcv hm) ?_
  refine m_alike0 hm M_h K_I_33 ?_
  show WX _ _ _ 39 [(0, .ref m), (1, .int 0), (2, .int 1), (3, .int (1 + 0)), (4, .int 0)] [.int 0] (n, s, h)
  refine WX.if_ rfl (fun c_39 => ?_) (fun c_39 => absurd (by decide) c_39)
  clear c_39
  refine WX.s1 rfl rfl ?_
  refine WX.callC (vs := [.ref m]) rfl rfl rfl (Nat.le_of_ble_eq_true rfl) (M_h.rcv hm) ?_
  refine m_coded0 hm M_h K_I_33 K_I_15 ?_
  show WX _ _ _ 60 [(0, .ref m), (1, .int 0), (2, .int 1), (3, .int (1 + 0)), (4, .int 0)] [.int 0] (n, s, h)
  refine WX.if_ rfl (fun c_60 => ?_) (fun c_60 => absurd (by decide) c_60)
  clear c_60
  refine WX.s1 rfl rfl ?_
  refine WX.s1 rfl rfl ?_
  refine WX.icmp rfl (fun c_113 => ?_) (fun c_113 => absurd (by decide) c_113)
  clear c_113
  refine WX.s1 rfl rfl ?_
  refine WX.s1 rfl rfl ?_
  refine WX.icmp rfl (fun c_242 => absurd c_242 (by decide)) (fun c_242 => ?_)
  clear c_242
  refine WX.s1 rfl rfl ?_
  refine WX.s1 rfl rfl ?_
  refine WX.s1 rfl rfl ?_
  refine WX.icmp rfl (fun c_248 => absurd c_248 (by decide)) (fun c_248 => ?_)
  clear c_248
  refine WX.s1 rfl rfl ?_
  refine WX.s1 rfl rfl ?_
  refine WX.s1 rfl rfl ?_
  refine WX.s1 rfl rfl ?_
  refine WX.s1 rfl rfl ?_
  refine WX.s1 rfl rfl ?_
  refine WX.s1 rfl rfl ?_
  refine WX.s1 rfl rfl ?_
  refine WX.callC (vs := [.ref m, .long _, .int 1]) rfl rfl rfl (Nat.le_of_ble_eq_true rfl) (M_h.rcv hm) ?_
  refine m_sayNum hm M_h (b := 1) (by decide) hc K_I_40 (fun h289n3 I289n3 A289n3 fr289n3 M_h289n3 fi289n3 K_I289n3_40 => ?_)
  have K_I289n3_33 : I289n3 33 = 0 := (fi289n3 33 (by decide)).trans K_I_33
  have K_I289n3_15 : I289n3 15 = 0 := (fi289n3 15 (by decide)).trans K_I_15
  have FR_h289n3 := FR_h.ztr fr289n3
  have FI_I289n3 : Fi I I289n3 (fun f => f = 40) := FI_I.zsub fi289n3 (fun j hj => by first | exact hj | omega)
  clear M_h FR_h FI_I fr289n3 fi289n3 K_I_33 K_I_15 K_I_40
  show WX _ _ _ 292 [(0, .ref m), (1, .int 0), (2, .int 1), (3, .int (1 + 0)), (4, .int 0)] [] (n, s, h289n3)
  refine WX.s1 rfl rfl ?_
  refine WX.s1 (L' := [(0, .ref m), (1, .int 0), (2, .int 1), (3, .int (1 + 0)), (4, .int 0), (5, .int 0)]) rfl rfl ?_
  refine WX.s1 rfl rfl ?_
  refine WX.s1 rfl rfl ?_
  refine WX.if_ rfl (fun c_299 => absurd c_299 (by decide)) (fun c_299 => ?_)
  clear c_299
  refine WX.s1 rfl rfl ?_
  refine WX.s1 rfl rfl ?_
  refine WX.icmp rfl (fun c_307 => ?_) (fun c_307 => absurd (by decide) c_307)
  clear c_307
  refine WX.s1 rfl rfl ?_
  exact WX.ret1 rfl (kk h289n3 I289n3 A289n3 FR_h289n3 M_h289n3 FI_I289n3 K_I289n3_40)
set_option maxRecDepth 20000 in
theorem m_tell0 {d n s : Nat} {h : Nat → aE} {m : Nat} {I : Nat → Int32} {AR : Nat → Nat → Int32} {LN : Nat → Int64}  (hm : m + 43 < n) (M_h : MAt h m I AR LN)  (K_I_31 : I 31 = 0) {Ψ : Option Value → aH → Prop} (kk : Ψ none (n, s, h)) : WO (mM (d + 1)) 162 [.ref m] (n, s, h) Ψ := by
  refine WO.of (Nat.le_of_ble_eq_true rfl) ?_
  have FR_h : Fr h h (inM m) := Fr.rf
  have FI_I : Fi I I (fun f => f = 40) := Fi.rf
  show WX (lk tX12_tellAll) (mM d) Ψ 0 [(0, .ref m)] [] (n, s, h)
  refine WX.s1 rfl rfl ?_
  refine WX.s1 (L' := [(0, .ref m), (1, .int 0)]) rfl rfl ?_
  refine WX.s1 rfl rfl ?_
  refine WX.s1 rfl rfl ?_
  refine WX.mgetK (x := 0) rfl hm M_h rfl K_I_31 ?_
  refine WX.icmp rfl (fun c_7 => ?_) (fun c_7 => absurd (by decide) c_7)
  clear c_7
  exact WX.ret0 rfl kk
set_option maxRecDepth 20000 in
theorem m_seqs0 {d n s : Nat} {h : Nat → aE} {m : Nat} {I : Nat → Int32} {AR : Nat → Nat → Int32} {LN : Nat → Int64} {c : Nat} (hm : m + 43 < n) (M_h : MAt h m I AR LN) (hc : c + 1 ≤ 12000) (K_I_31 : I 31 = 0) (K_I_40 : I 40 = (nI c)) {Ψ : Option Value → aH → Prop} (kk : ∀ h' I' A', Fr h h' (inM m) → MAt h' m I' A' LN → Fi I I' (fun f => f = 40) → I' 40 = nI (c + 1) → Ψ none (n, s, h')) : WO (mM (d + 2)) 202 [.ref m] (n, s, h) Ψ := by
  refine WO.of (Nat.le_of_ble_eq_true rfl) ?_
  have FR_h : Fr h h (inM m) := Fr.rf
  have FI_I : Fi I I (fun f => f = 40) := Fi.rf
  show WX (lk tX12_saySequences) (mM (d + 1)) Ψ 0 [(0, .ref m)] [] (n, s, h)
  refine WX.s1 rfl rfl ?_
  refine WX.mgetK (x := 0) rfl hm M_h rfl K_I_31 ?_
  refine WX.s1 (L' := [(0, .ref m), (1, .int 0)]) rfl rfl ?_
  refine WX.s1 rfl rfl ?_
  refine WX.s1 rfl rfl ?_
  refine WX.icmp rfl (fun c_9 => absurd c_9 (by decide)) (fun c_9 => ?_)
  clear c_9
  refine WX.s1 rfl rfl ?_
  refine WX.s1 rfl rfl ?_
  refine WX.callC (vs := [.ref m, .int 0]) rfl rfl rfl (Nat.le_of_ble_eq_true rfl) (M_h.rcv hm) ?_
  refine m_say hm M_h hc K_I_40 (fun h14n1 I14n1 A14n1 fr14n1 M_h14n1 fi14n1 K_I14n1_40 => ?_)
  have K_I14n1_31 : I14n1 31 = 0 := (fi14n1 31 (by decide)).trans K_I_31
  have FR_h14n1 := FR_h.ztr fr14n1
  have FI_I14n1 : Fi I I14n1 (fun f => f = 40) := FI_I.zsub fi14n1 (fun j hj => by first | exact hj | omega)
  clear M_h FR_h FI_I fr14n1 fi14n1 K_I_31 K_I_40
  show WX _ _ _ 17 [(0, .ref m), (1, .int 0)] [] (n, s, h14n1)
  refine WX.s1 rfl rfl ?_
  refine WX.s1 rfl rfl ?_
  refine WX.if_ rfl (fun c_71 => absurd c_71 (by decide)) (fun c_71 => ?_)
  clear c_71
  exact WX.ret0 rfl (kk h14n1 I14n1 A14n1 FR_h14n1 M_h14n1 FI_I14n1 K_I14n1_40)
set_option maxRecDepth 20000 in
theorem m_bhead {d n s : Nat} {h : Nat → aE} {m : Nat} {I : Nat → Int32} {AR : Nat → Nat → Int32} {LN : Nat → Int64} {c : Nat} {nn kd la : Int32} (hm : m + 43 < n) (M_h : MAt h m I AR LN) (hc : c + 3 ≤ 12000) (K_I_40 : I 40 = (nI c)) {Ψ : Option Value → aH → Prop} (kk : ∀ h' I' A', Fr h h' (inM m) → MAt h' m I' A' LN → Fi I I' (fun f => f = 40) → I' 40 = nI (c + 3) → Ψ none (n, s, h')) : WO (mM (d + 3)) 206 [.ref m, .int (nI c), .int nn, .int kd, .int la] (n, s, h) Ψ := by
  refine WO.of (Nat.le_of_ble_eq_true rfl) ?_
  have FR_h : Fr h h (inM m) := Fr.rf
  have FI_I : Fi I I (fun f => f = 40) := Fi.rf
  show WX (lk tX12_sayBlockHead) (mM (d + 2)) Ψ 0 [(0, .ref m), (1, .int (nI c)), (2, .int nn), (3, .int kd), (4, .int la)] [] (n, s, h)
  refine WX.s1 rfl rfl ?_
  refine WX.mgetK (x := (nI c)) rfl hm M_h rfl K_I_40 ?_
  refine WX.s1 (L' := [(0, .ref m), (1, .int (nI c)), (2, .int nn), (3, .int kd), (4, .int la), (5, .int (nI c))]) rfl rfl ?_
  refine WX.s1 rfl rfl ?_
  refine WX.s1 rfl rfl ?_
  refine WX.mput rfl hm M_h (rfl) (by decide) (fun _ => rfl) (fun h8n1 I8n1 e_I8n1 M_h8n1 frh8n1 => ?_)
  have FR_h8n1 := FR_h.ztr frh8n1
  have FI_I8n1 : Fi I I8n1 (fun f => f = 40) := FI_I.zup e_I8n1 (by first | exact rfl | decide | omega)
  have K_I8n1_40 : I8n1 40 = (nI c) := by rw [e_I8n1]; exact pk_us
  clear M_h FR_h FI_I e_I8n1 frh8n1 K_I_40
  refine WX.s1 rfl rfl ?_
  refine WX.s1 rfl rfl ?_
  refine WX.s1 rfl rfl ?_
  refine WX.s1 rfl rfl ?_
  refine WX.s1 rfl rfl ?_
  refine WX.s1 rfl rfl ?_
  refine WX.s1 rfl rfl ?_
  refine WX.s1 rfl rfl ?_
  have t30 : ∀ v, WX (lk tX12_sayBlockHead) (mM (d + 2)) Ψ 30 [(0, .ref m), (1, .int (nI c)), (2, .int nn), (3, .int kd), (4, .int la), (5, .int (nI c))] [.int v, .int ((8 * nn) + (2 * kd)), .ref m] (n, s, h8n1) := by
    intro v
    refine WX.s1 rfl rfl ?_
    refine WX.s1 rfl rfl ?_
    refine WX.s1 rfl rfl ?_
    refine WX.callC (vs := [.ref m, .long _, .int 3]) rfl rfl rfl (Nat.le_of_ble_eq_true rfl) (M_h8n1.rcv hm) ?_
    refine m_sayNum hm M_h8n1 (b := 3) (by decide) hc K_I8n1_40 (fun h33n2 I33n2 A33n2 fr33n2 M_h33n2 fi33n2 K_I33n2_40 => ?_)
    have FR_h33n2 := FR_h8n1.ztr fr33n2
    have FI_I33n2 : Fi I I33n2 (fun f => f = 40) := FI_I8n1.zsub fi33n2 (fun j hj => by first | exact hj | omega)
    clear M_h8n1 FR_h8n1 FI_I8n1 fr33n2 fi33n2 K_I8n1_40
    show WX _ _ _ 36 [(0, .ref m), (1, .int (nI c)), (2, .int nn), (3, .int kd), (4, .int la), (5, .int (nI c))] [] (n, s, h33n2)
    refine WX.s1 rfl rfl ?_
    refine WX.s1 rfl rfl ?_
    refine WX.s1 rfl rfl ?_
    refine WX.mgetK (x := (nI (c + 3))) rfl hm M_h33n2 rfl K_I33n2_40 ?_
    refine WX.icmp rfl (fun c_43 => ?_) (fun c_43 => absurd (nI_le (by omega) (by omega)) c_43)
    refine WX.s1 rfl rfl ?_
    refine WX.mgetK (x := (nI (c + 3))) rfl hm M_h33n2 rfl K_I33n2_40 ?_
    refine WX.mput rfl hm M_h33n2 (rfl) (by decide) (fun _ => rfl) (fun h55n3 I55n3 e_I55n3 M_h55n3 frh55n3 => ?_)
    have FR_h55n3 := FR_h33n2.ztr frh55n3
    have FI_I55n3 : Fi I I55n3 (fun f => f = 40) := FI_I33n2.zup e_I55n3 (by first | exact rfl | decide | omega)
    have K_I55n3_40 : I55n3 40 = (nI (c + 3)) := by rw [e_I55n3]; exact pk_us
    clear M_h33n2 FR_h33n2 FI_I33n2 e_I55n3 frh55n3 K_I33n2_40
    exact WX.ret0 rfl (kk h55n3 I55n3 A33n2 FR_h55n3 M_h55n3 FI_I55n3 K_I55n3_40)
  refine WX.s1 rfl rfl ?_
  refine WX.if_ rfl (fun c_22 => ?_) (fun c_22 => ?_)
  · skip
    refine WX.s1 rfl rfl ?_
    exact t30 _
  · skip
    refine WX.s1 rfl rfl ?_
    refine WX.s1 rfl rfl ?_
    exact t30 _
theorem nI_two (c : Nat) : nI (c + 3 + 1 + 1) - nI c - 3 = 2 := by
  have e : nI (c + 3 + 1 + 1) = nI c + nI 5 := (nI_add c 5).symm
  rw [e, Int32.add_comm (nI c) (nI 5), Int32.add_sub_cancel]
  decide
set_option maxRecDepth 20000 in
theorem m_block0 {d n s : Nat} {h : Nat → aE} {m : Nat} {I : Nat → Int32} {AR : Nat → Nat → Int32} {LN : Nat → Int64} {c : Nat} (hm : m + 43 < n) (M_h : MAt h m I AR LN) (hc : c + 5 ≤ 12000) (K_I_40 : I 40 = (nI c)) (K_I_7 : I 7 = 0) (K_I_15 : I 15 = 0) {Ψ : Option Value → aH → Prop} (kk : ∀ h' I' A', Fr h h' (inM m) → MAt h' m I' A' LN → Fi I I' (fun f => f = 40 ∨ f = 20 ∨ f = 25 ∨ f = 31 ∨ f = 33 ∨ f = 15) → I' 40 = nI (c + 3) → Ψ none (n, s, h')) : WO (mM (d + 4)) 207 [.ref m, .int 0, .int 0, .int 1] (n, s, h) Ψ := by
  refine WO.of (Nat.le_of_ble_eq_true rfl) ?_
  have FR_h : Fr h h (inM m) := Fr.rf
  have FI_I : Fi I I (fun f => f = 40 ∨ f = 20 ∨ f = 25 ∨ f = 31 ∨ f = 33 ∨ f = 15) := Fi.rf
  show WX (lk tX12_sayBlock) (mM (d + 3)) Ψ 0 [(0, .ref m), (1, .int 0), (2, .int 0), (3, .int 1)] [] (n, s, h)
  refine WX.s1 rfl rfl ?_
  refine WX.mgetK (x := (nI c)) rfl hm M_h rfl K_I_40 ?_
  refine WX.s1 (L' := [(0, .ref m), (1, .int 0), (2, .int 0), (3, .int 1), (4, .int (nI c))]) rfl rfl ?_
  refine WX.s1 rfl rfl ?_
  refine WX.s1 rfl rfl ?_
  refine WX.s1 rfl rfl ?_
  refine WX.s1 (L' := [(0, .ref m), (1, .int 0), (2, .int 0), (3, .int 1), (4, .int (nI c)), (5, .int (0 - 0))]) rfl rfl ?_
  refine WX.s1 rfl rfl ?_
  refine WX.if_ rfl (fun c_13 => ?_) (fun c_13 => absurd (by decide) c_13)
  clear c_13
  refine WX.s1 rfl rfl ?_
  refine WX.s1 (L' := [(0, .ref m), (1, .int 0), (2, .int 0), (3, .int 1), (4, .int (nI c)), (5, .int (0 - 0)), (6, .int 0)]) rfl rfl ?_
  refine WX.s1 rfl rfl ?_
  refine WX.s1 (L' := [(0, .ref m), (1, .int 0), (2, .int 0), (3, .int 1), (4, .int (nI c)), (5, .int (0 - 0)), (6, .int 0), (7, .int 0)]) rfl rfl ?_
  refine WX.s1 rfl rfl ?_
  refine WX.s1 rfl rfl ?_
  refine WX.icmp rfl (fun c_29 => ?_) (fun c_29 => absurd (by decide) c_29)
  clear c_29
  refine WX.s1 rfl rfl ?_
  refine WX.if_ rfl (fun c_68 => ?_) (fun c_68 => absurd (by decide) c_68)
  clear c_68
  refine WX.s1 rfl rfl ?_
  refine WX.callC (vs := [.ref m]) rfl rfl rfl (Nat.le_of_ble_eq_true rfl) (M_h.rcv hm) ?_
  refine m_keep hm M_h K_I_15 (fun h103n1 I103n1 A103n1 fr103n1 M_h103n1 fi103n1 K_I103n1_20 => ?_)
  have K_I103n1_40 : I103n1 40 = (nI c) := (fi103n1 40 (by decide)).trans K_I_40
  have K_I103n1_7 : I103n1 7 = 0 := (fi103n1 7 (by decide)).trans K_I_7
  have K_I103n1_15 : I103n1 15 = 0 := (fi103n1 15 (by decide)).trans K_I_15
  have FR_h103n1 := FR_h.ztr fr103n1
  have FI_I103n1 : Fi I I103n1 (fun f => f = 40 ∨ f = 20 ∨ f = 25 ∨ f = 31 ∨ f = 33 ∨ f = 15) := FI_I.zsub fi103n1 (fun j hj => by omega)
  clear M_h FR_h FI_I fr103n1 fi103n1 K_I_40 K_I_7 K_I_15
  show WX _ _ _ 106 [(0, .ref m), (1, .int 0), (2, .int 0), (3, .int 1), (4, .int (nI c)), (5, .int (0 - 0)), (6, .int 0), (7, .int 0)] [] (n, s, h103n1)
  refine WX.s1 rfl rfl ?_
  refine WX.s1 rfl rfl ?_
  refine WX.s1 rfl rfl ?_
  refine WX.callC (vs := [.ref m, .long 0, .int 3]) rfl rfl rfl (Nat.le_of_ble_eq_true rfl) (M_h103n1.rcv hm) ?_
  refine m_sayNum hm M_h103n1 (b := 3) (by decide) (by omega) K_I103n1_40 (fun h109n2 I109n2 A109n2 fr109n2 M_h109n2 fi109n2 K_I109n2_40 => ?_)
  have K_I109n2_20 : I109n2 20 = 0 := (fi109n2 20 (by decide)).trans K_I103n1_20
  have K_I109n2_7 : I109n2 7 = 0 := (fi109n2 7 (by decide)).trans K_I103n1_7
  have K_I109n2_15 : I109n2 15 = 0 := (fi109n2 15 (by decide)).trans K_I103n1_15
  have FR_h109n2 := FR_h103n1.ztr fr109n2
  have FI_I109n2 : Fi I I109n2 (fun f => f = 40 ∨ f = 20 ∨ f = 25 ∨ f = 31 ∨ f = 33 ∨ f = 15) := FI_I103n1.zsub fi109n2 (fun j hj => by omega)
  clear M_h103n1 FR_h103n1 FI_I103n1 fr109n2 fi109n2 K_I103n1_20 K_I103n1_40 K_I103n1_7 K_I103n1_15
  show WX _ _ _ 112 [(0, .ref m), (1, .int 0), (2, .int 0), (3, .int 1), (4, .int (nI c)), (5, .int (0 - 0)), (6, .int 0), (7, .int 0)] [] (n, s, h109n2)
  refine WX.s1 rfl rfl ?_
  refine WX.s1 rfl rfl ?_
  refine WX.mput rfl hm M_h109n2 (rfl) (by decide) (fun _ => rfl) (fun h114n3 I114n3 e_I114n3 M_h114n3 frh114n3 => ?_)
  have FR_h114n3 := FR_h109n2.ztr frh114n3
  have FI_I114n3 : Fi I I114n3 (fun f => f = 40 ∨ f = 20 ∨ f = 25 ∨ f = 31 ∨ f = 33 ∨ f = 15) := FI_I109n2.zup e_I114n3 (by first | exact rfl | decide | omega)
  have K_I114n3_40 : I114n3 40 = (nI (c + 3)) := by rw [e_I114n3]; exact (pk_un (by decide)).trans K_I109n2_40
  have K_I114n3_20 : I114n3 20 = 0 := by rw [e_I114n3]; exact (pk_un (by decide)).trans K_I109n2_20
  have K_I114n3_7 : I114n3 7 = 0 := by rw [e_I114n3]; exact (pk_un (by decide)).trans K_I109n2_7
  have K_I114n3_15 : I114n3 15 = 0 := by rw [e_I114n3]; exact (pk_un (by decide)).trans K_I109n2_15
  have K_I114n3_25 : I114n3 25 = 0 := by rw [e_I114n3]; exact pk_us
  clear M_h109n2 FR_h109n2 FI_I109n2 e_I114n3 frh114n3 K_I109n2_40 K_I109n2_20 K_I109n2_7 K_I109n2_15
  refine WX.s1 rfl rfl ?_
  refine WX.s1 (L' := [(0, .ref m), (1, .int 0), (2, .int 0), (3, .int 1), (4, .int (nI c)), (5, .int (0 - 0)), (6, .int 0), (7, .int 0)]) rfl rfl ?_
  refine WX.s1 rfl rfl ?_
  refine WX.s1 rfl rfl ?_
  refine WX.mgetK (x := 0) rfl hm M_h114n3 rfl K_I114n3_7 ?_
  refine WX.icmp rfl (fun c_126 => ?_) (fun c_126 => absurd (by decide) c_126)
  clear c_126
  refine WX.s1 rfl rfl ?_
  refine WX.s1 (L' := [(0, .ref m), (1, .int 0), (2, .int 0), (3, .int 1), (4, .int (nI c)), (5, .int (0 - 0)), (6, .int 0), (7, .int 0)]) rfl rfl ?_
  refine WX.s1 rfl rfl ?_
  refine WX.s1 rfl rfl ?_
  refine WX.icmp rfl (fun c_167 => ?_) (fun c_167 => absurd (by decide) c_167)
  clear c_167
  refine WX.s1 rfl rfl ?_
  refine WX.s1 (L' := [(0, .ref m), (1, .int 0), (2, .int 0), (3, .int 1), (4, .int (nI c)), (5, .int (0 - 0)), (6, .int 0), (7, .int 8)]) rfl rfl ?_
  refine WX.s1 rfl rfl ?_
  refine WX.s1 rfl rfl ?_
  refine WX.icmp rfl (fun c_210 => absurd c_210 (by decide)) (fun c_210 => ?_)
  clear c_210
  refine WX.s1 rfl rfl ?_
  refine WX.mget rfl hm M_h114n3 rfl ?_
  refine WX.s1 rfl rfl ?_
  refine WX.s1 rfl rfl ?_
  refine WX.mget rfl hm M_h114n3 rfl ?_
  refine WX.s1 rfl rfl ?_
  refine WX.mald (c := 42) rfl hm M_h114n3 (by decide) (by decide) (by decide) (by decide) (by unfold vp_in; decide) ?_
  refine WX.mast (c := 40) rfl hm M_h114n3 (by decide) (by decide) (by decide) (by decide) (by unfold vp_in; decide) (fun h226n4 A226n4 e_A226n4 M_h226n4 frh226n4 => ?_)
  have FR_h226n4 := FR_h114n3.ztr frh226n4
  clear M_h114n3 FR_h114n3 frh226n4 e_A226n4
  refine WX.s1 (L' := [(0, .ref m), (1, .int 0), (2, .int 0), (3, .int 1), (4, .int (nI c)), (5, .int (0 - 0)), (6, .int 0), (7, .int (8 + 1))]) rfl rfl ?_
  refine WX.s1 rfl rfl ?_
  refine WX.s1 rfl rfl ?_
  refine WX.s1 rfl rfl ?_
  refine WX.icmp rfl (fun c_210 => absurd c_210 (by decide)) (fun c_210 => ?_)
  clear c_210
  refine WX.s1 rfl rfl ?_
  refine WX.mget rfl hm M_h226n4 rfl ?_
  refine WX.s1 rfl rfl ?_
  refine WX.s1 rfl rfl ?_
  refine WX.mget rfl hm M_h226n4 rfl ?_
  refine WX.s1 rfl rfl ?_
  refine WX.mald (c := 42) rfl hm M_h226n4 (by decide) (by decide) (by decide) (by decide) (by unfold vp_in; decide) ?_
  refine WX.mast (c := 40) rfl hm M_h226n4 (by decide) (by decide) (by decide) (by decide) (by unfold vp_in; decide) (fun h226n5 A226n5 e_A226n5 M_h226n5 frh226n5 => ?_)
  have FR_h226n5 := FR_h226n4.ztr frh226n5
  clear M_h226n4 FR_h226n4 frh226n5 e_A226n5
  refine WX.s1 (L' := [(0, .ref m), (1, .int 0), (2, .int 0), (3, .int 1), (4, .int (nI c)), (5, .int (0 - 0)), (6, .int 0), (7, .int ((8 + 1) + 1))]) rfl rfl ?_
  refine WX.s1 rfl rfl ?_
  refine WX.s1 rfl rfl ?_
  refine WX.s1 rfl rfl ?_
  refine WX.icmp rfl (fun c_210 => absurd c_210 (by decide)) (fun c_210 => ?_)
  clear c_210
  refine WX.s1 rfl rfl ?_
  refine WX.mget rfl hm M_h226n5 rfl ?_
  refine WX.s1 rfl rfl ?_
  refine WX.s1 rfl rfl ?_
  refine WX.mget rfl hm M_h226n5 rfl ?_
  refine WX.s1 rfl rfl ?_
  refine WX.mald (c := 42) rfl hm M_h226n5 (by decide) (by decide) (by decide) (by decide) (by unfold vp_in; decide) ?_
  refine WX.mast (c := 40) rfl hm M_h226n5 (by decide) (by decide) (by decide) (by decide) (by unfold vp_in; decide) (fun h226n6 A226n6 e_A226n6 M_h226n6 frh226n6 => ?_)
  have FR_h226n6 := FR_h226n5.ztr frh226n6
  clear M_h226n5 FR_h226n5 frh226n6 e_A226n6
  refine WX.s1 (L' := [(0, .ref m), (1, .int 0), (2, .int 0), (3, .int 1), (4, .int (nI c)), (5, .int (0 - 0)), (6, .int 0), (7, .int (((8 + 1) + 1) + 1))]) rfl rfl ?_
  refine WX.s1 rfl rfl ?_
  refine WX.s1 rfl rfl ?_
  refine WX.s1 rfl rfl ?_
  refine WX.icmp rfl (fun c_210 => absurd c_210 (by decide)) (fun c_210 => ?_)
  clear c_210
  refine WX.s1 rfl rfl ?_
  refine WX.mget rfl hm M_h226n6 rfl ?_
  refine WX.s1 rfl rfl ?_
  refine WX.s1 rfl rfl ?_
  refine WX.mget rfl hm M_h226n6 rfl ?_
  refine WX.s1 rfl rfl ?_
  refine WX.mald (c := 42) rfl hm M_h226n6 (by decide) (by decide) (by decide) (by decide) (by unfold vp_in; decide) ?_
  refine WX.mast (c := 40) rfl hm M_h226n6 (by decide) (by decide) (by decide) (by decide) (by unfold vp_in; decide) (fun h226n7 A226n7 e_A226n7 M_h226n7 frh226n7 => ?_)
  have FR_h226n7 := FR_h226n6.ztr frh226n7
  clear M_h226n6 FR_h226n6 frh226n7 e_A226n7
  refine WX.s1 (L' := [(0, .ref m), (1, .int 0), (2, .int 0), (3, .int 1), (4, .int (nI c)), (5, .int (0 - 0)), (6, .int 0), (7, .int ((((8 + 1) + 1) + 1) + 1))]) rfl rfl ?_
  refine WX.s1 rfl rfl ?_
  refine WX.s1 rfl rfl ?_
  refine WX.s1 rfl rfl ?_
  refine WX.icmp rfl (fun c_210 => ?_) (fun c_210 => absurd (by decide) c_210)
  clear c_210
  refine WX.s1 rfl rfl ?_
  refine WX.s1 rfl rfl ?_
  refine WX.mgetK (x := 0) rfl hm M_h226n7 rfl K_I114n3_7 ?_
  refine WX.s1 rfl rfl ?_
  refine WX.s1 rfl rfl ?_
  refine WX.callC (vs := [.ref m, .int (0 + 0)]) rfl rfl rfl (Nat.le_of_ble_eq_true rfl) (M_h226n7.rcv hm) ?_
  refine m_go0 hm M_h226n7 K_I114n3_25 (fun h240n8 I240n8 A240n8 fr240n8 M_h240n8 fi240n8 K_I240n8_31 K_I240n8_33 => ?_)
  have K_I240n8_40 : I240n8 40 = (nI (c + 3)) := (fi240n8 40 (by decide)).trans K_I114n3_40
  have K_I240n8_20 : I240n8 20 = 0 := (fi240n8 20 (by decide)).trans K_I114n3_20
  have K_I240n8_7 : I240n8 7 = 0 := (fi240n8 7 (by decide)).trans K_I114n3_7
  have K_I240n8_15 : I240n8 15 = 0 := (fi240n8 15 (by decide)).trans K_I114n3_15
  have K_I240n8_25 : I240n8 25 = 0 := (fi240n8 25 (by decide)).trans K_I114n3_25
  have FR_h240n8 := FR_h226n7.ztr fr240n8
  have FI_I240n8 : Fi I I240n8 (fun f => f = 40 ∨ f = 20 ∨ f = 25 ∨ f = 31 ∨ f = 33 ∨ f = 15) := FI_I114n3.zsub fi240n8 (fun j hj => by omega)
  clear M_h226n7 FR_h226n7 FI_I114n3 fr240n8 fi240n8 K_I114n3_40 K_I114n3_20 K_I114n3_7 K_I114n3_15 K_I114n3_25
  show WX _ _ _ 243 [(0, .ref m), (1, .int 0), (2, .int 0), (3, .int 1), (4, .int (nI c)), (5, .int (0 - 0)), (6, .int 0), (7, .int ((((8 + 1) + 1) + 1) + 1))] [] (n, s, h240n8)
  refine WX.s1 rfl rfl ?_
  refine WX.callC (vs := [.ref m]) rfl rfl rfl (Nat.le_of_ble_eq_true rfl) (M_h240n8.rcv hm) ?_
  refine m_lits0 hm M_h240n8 (c := c + 3) (by omega) K_I240n8_33 K_I240n8_15 K_I240n8_40 (fun h244n9 I244n9 A244n9 fr244n9 M_h244n9 fi244n9 K_I244n9_40 => ?_)
  have K_I244n9_31 : I244n9 31 = 0 := (fi244n9 31 (by decide)).trans K_I240n8_31
  have K_I244n9_33 : I244n9 33 = 0 := (fi244n9 33 (by decide)).trans K_I240n8_33
  have K_I244n9_20 : I244n9 20 = 0 := (fi244n9 20 (by decide)).trans K_I240n8_20
  have K_I244n9_7 : I244n9 7 = 0 := (fi244n9 7 (by decide)).trans K_I240n8_7
  have K_I244n9_15 : I244n9 15 = 0 := (fi244n9 15 (by decide)).trans K_I240n8_15
  have K_I244n9_25 : I244n9 25 = 0 := (fi244n9 25 (by decide)).trans K_I240n8_25
  have FR_h244n9 := FR_h240n8.ztr fr244n9
  have FI_I244n9 : Fi I I244n9 (fun f => f = 40 ∨ f = 20 ∨ f = 25 ∨ f = 31 ∨ f = 33 ∨ f = 15) := FI_I240n8.zsub fi244n9 (fun j hj => by omega)
  clear M_h240n8 FR_h240n8 FI_I240n8 fr244n9 fi244n9 K_I240n8_31 K_I240n8_33 K_I240n8_40 K_I240n8_20 K_I240n8_7 K_I240n8_15 K_I240n8_25
  show WX _ _ _ 247 [(0, .ref m), (1, .int 0), (2, .int 0), (3, .int 1), (4, .int (nI c)), (5, .int (0 - 0)), (6, .int 0), (7, .int ((((8 + 1) + 1) + 1) + 1))] [.int 0] (n, s, h244n9)
  refine WX.s1 (L' := [(0, .ref m), (1, .int 0), (2, .int 0), (3, .int 1), (4, .int (nI c)), (5, .int (0 - 0)), (6, .int 0), (7, .int 0)]) rfl rfl ?_
  refine WX.s1 rfl rfl ?_
  refine WX.callC (vs := [.ref m]) rfl rfl rfl (Nat.le_of_ble_eq_true rfl) (M_h244n9.rcv hm) ?_
  refine m_tell0 hm M_h244n9 K_I244n9_31 ?_
  show WX _ _ _ 253 [(0, .ref m), (1, .int 0), (2, .int 0), (3, .int 1), (4, .int (nI c)), (5, .int (0 - 0)), (6, .int 0), (7, .int 0)] [] (n, s, h244n9)
  refine WX.s1 rfl rfl ?_
  refine WX.callC (vs := [.ref m]) rfl rfl rfl (Nat.le_of_ble_eq_true rfl) (M_h244n9.rcv hm) ?_
  refine m_seqs0 hm M_h244n9 (c := c + 3 + 1) (by omega) K_I244n9_31 K_I244n9_40 (fun h254n11 I254n11 A254n11 fr254n11 M_h254n11 fi254n11 K_I254n11_40 => ?_)
  have K_I254n11_31 : I254n11 31 = 0 := (fi254n11 31 (by decide)).trans K_I244n9_31
  have K_I254n11_33 : I254n11 33 = 0 := (fi254n11 33 (by decide)).trans K_I244n9_33
  have K_I254n11_20 : I254n11 20 = 0 := (fi254n11 20 (by decide)).trans K_I244n9_20
  have K_I254n11_7 : I254n11 7 = 0 := (fi254n11 7 (by decide)).trans K_I244n9_7
  have K_I254n11_15 : I254n11 15 = 0 := (fi254n11 15 (by decide)).trans K_I244n9_15
  have K_I254n11_25 : I254n11 25 = 0 := (fi254n11 25 (by decide)).trans K_I244n9_25
  have FR_h254n11 := FR_h244n9.ztr fr254n11
  have FI_I254n11 : Fi I I254n11 (fun f => f = 40 ∨ f = 20 ∨ f = 25 ∨ f = 31 ∨ f = 33 ∨ f = 15) := FI_I244n9.zsub fi254n11 (fun j hj => by omega)
  clear M_h244n9 FR_h244n9 FI_I244n9 fr254n11 fi254n11 K_I244n9_40 K_I244n9_31 K_I244n9_33 K_I244n9_20 K_I244n9_7 K_I244n9_15 K_I244n9_25
  show WX _ _ _ 257 [(0, .ref m), (1, .int 0), (2, .int 0), (3, .int 1), (4, .int (nI c)), (5, .int (0 - 0)), (6, .int 0), (7, .int 0)] [] (n, s, h254n11)
  refine WX.s1 rfl rfl ?_
  refine WX.mgetK (x := (nI (c + 3 + 1 + 1))) rfl hm M_h254n11 rfl K_I254n11_40 ?_
  refine WX.s1 rfl rfl ?_
  refine WX.s1 rfl rfl ?_
  refine WX.s1 rfl rfl ?_
  refine WX.s1 rfl rfl ?_
  refine WX.s1 (L' := [(0, .ref m), (1, .int 0), (2, .int 0), (3, .int 1), (4, .int (nI c)), (5, .int (0 - 0)), (6, .int 0), (7, .int 0), (8, .int (((nI (c + 3 + 1 + 1)) - (nI c)) - 3))]) rfl rfl ?_
  rw [nI_two c]
  refine WX.s1 rfl rfl ?_
  refine WX.s1 rfl rfl ?_
  refine WX.icmp rfl (fun c_272 => ?_) (fun c_272 => absurd (by decide) c_272)
  clear c_272
  refine WX.s1 rfl rfl ?_
  refine WX.callC (vs := [.ref m]) rfl rfl rfl (Nat.le_of_ble_eq_true rfl) (M_h254n11.rcv hm) ?_
  refine m_restore hm M_h254n11 K_I254n11_20 (fun h323n12 I323n12 A323n12 fr323n12 M_h323n12 fi323n12 K_I323n12_15 => ?_)
  have K_I323n12_40 : I323n12 40 = (nI (c + 3 + 1 + 1)) := (fi323n12 40 (by decide)).trans K_I254n11_40
  have K_I323n12_31 : I323n12 31 = 0 := (fi323n12 31 (by decide)).trans K_I254n11_31
  have K_I323n12_33 : I323n12 33 = 0 := (fi323n12 33 (by decide)).trans K_I254n11_33
  have K_I323n12_20 : I323n12 20 = 0 := (fi323n12 20 (by decide)).trans K_I254n11_20
  have K_I323n12_7 : I323n12 7 = 0 := (fi323n12 7 (by decide)).trans K_I254n11_7
  have K_I323n12_25 : I323n12 25 = 0 := (fi323n12 25 (by decide)).trans K_I254n11_25
  have FR_h323n12 := FR_h254n11.ztr fr323n12
  have FI_I323n12 : Fi I I323n12 (fun f => f = 40 ∨ f = 20 ∨ f = 25 ∨ f = 31 ∨ f = 33 ∨ f = 15) := FI_I254n11.zsub fi323n12 (fun j hj => by omega)
  clear M_h254n11 FR_h254n11 FI_I254n11 fr323n12 fi323n12 K_I254n11_40 K_I254n11_31 K_I254n11_33 K_I254n11_20 K_I254n11_7 K_I254n11_15 K_I254n11_25
  show WX _ _ _ 326 [(0, .ref m), (1, .int 0), (2, .int 0), (3, .int 1), (4, .int (nI c)), (5, .int (0 - 0)), (6, .int 0), (7, .int 0), (8, .int 2)] [] (n, s, h323n12)
  refine WX.s1 rfl rfl ?_
  refine WX.s1 (L' := [(0, .ref m), (1, .int 0), (2, .int 0), (3, .int 1), (4, .int (nI c)), (5, .int (0 - 0)), (6, .int 0), (7, .int 0), (8, .int 2), (9, .int 8)]) rfl rfl ?_
  refine WX.s1 rfl rfl ?_
  refine WX.s1 rfl rfl ?_
  refine WX.icmp rfl (fun c_334 => absurd c_334 (by decide)) (fun c_334 => ?_)
  clear c_334
  refine WX.s1 rfl rfl ?_
  refine WX.mget rfl hm M_h323n12 rfl ?_
  refine WX.s1 rfl rfl ?_
  refine WX.s1 rfl rfl ?_
  refine WX.mget rfl hm M_h323n12 rfl ?_
  refine WX.s1 rfl rfl ?_
  refine WX.mald (c := 40) rfl hm M_h323n12 (by decide) (by decide) (by decide) (by decide) (by unfold vp_in; decide) ?_
  refine WX.mast (c := 42) rfl hm M_h323n12 (by decide) (by decide) (by decide) (by decide) (by unfold vp_in; decide) (fun h350n13 A350n13 e_A350n13 M_h350n13 frh350n13 => ?_)
  have FR_h350n13 := FR_h323n12.ztr frh350n13
  clear M_h323n12 FR_h323n12 frh350n13 e_A350n13
  refine WX.s1 (L' := [(0, .ref m), (1, .int 0), (2, .int 0), (3, .int 1), (4, .int (nI c)), (5, .int (0 - 0)), (6, .int 0), (7, .int 0), (8, .int 2), (9, .int (8 + 1))]) rfl rfl ?_
  refine WX.s1 rfl rfl ?_
  refine WX.s1 rfl rfl ?_
  refine WX.s1 rfl rfl ?_
  refine WX.icmp rfl (fun c_334 => absurd c_334 (by decide)) (fun c_334 => ?_)
  clear c_334
  refine WX.s1 rfl rfl ?_
  refine WX.mget rfl hm M_h350n13 rfl ?_
  refine WX.s1 rfl rfl ?_
  refine WX.s1 rfl rfl ?_
  refine WX.mget rfl hm M_h350n13 rfl ?_
  refine WX.s1 rfl rfl ?_
  refine WX.mald (c := 40) rfl hm M_h350n13 (by decide) (by decide) (by decide) (by decide) (by unfold vp_in; decide) ?_
  refine WX.mast (c := 42) rfl hm M_h350n13 (by decide) (by decide) (by decide) (by decide) (by unfold vp_in; decide) (fun h350n14 A350n14 e_A350n14 M_h350n14 frh350n14 => ?_)
  have FR_h350n14 := FR_h350n13.ztr frh350n14
  clear M_h350n13 FR_h350n13 frh350n14 e_A350n14
  refine WX.s1 (L' := [(0, .ref m), (1, .int 0), (2, .int 0), (3, .int 1), (4, .int (nI c)), (5, .int (0 - 0)), (6, .int 0), (7, .int 0), (8, .int 2), (9, .int ((8 + 1) + 1))]) rfl rfl ?_
  refine WX.s1 rfl rfl ?_
  refine WX.s1 rfl rfl ?_
  refine WX.s1 rfl rfl ?_
  refine WX.icmp rfl (fun c_334 => absurd c_334 (by decide)) (fun c_334 => ?_)
  clear c_334
  refine WX.s1 rfl rfl ?_
  refine WX.mget rfl hm M_h350n14 rfl ?_
  refine WX.s1 rfl rfl ?_
  refine WX.s1 rfl rfl ?_
  refine WX.mget rfl hm M_h350n14 rfl ?_
  refine WX.s1 rfl rfl ?_
  refine WX.mald (c := 40) rfl hm M_h350n14 (by decide) (by decide) (by decide) (by decide) (by unfold vp_in; decide) ?_
  refine WX.mast (c := 42) rfl hm M_h350n14 (by decide) (by decide) (by decide) (by decide) (by unfold vp_in; decide) (fun h350n15 A350n15 e_A350n15 M_h350n15 frh350n15 => ?_)
  have FR_h350n15 := FR_h350n14.ztr frh350n15
  clear M_h350n14 FR_h350n14 frh350n15 e_A350n15
  refine WX.s1 (L' := [(0, .ref m), (1, .int 0), (2, .int 0), (3, .int 1), (4, .int (nI c)), (5, .int (0 - 0)), (6, .int 0), (7, .int 0), (8, .int 2), (9, .int (((8 + 1) + 1) + 1))]) rfl rfl ?_
  refine WX.s1 rfl rfl ?_
  refine WX.s1 rfl rfl ?_
  refine WX.s1 rfl rfl ?_
  refine WX.icmp rfl (fun c_334 => absurd c_334 (by decide)) (fun c_334 => ?_)
  clear c_334
  refine WX.s1 rfl rfl ?_
  refine WX.mget rfl hm M_h350n15 rfl ?_
  refine WX.s1 rfl rfl ?_
  refine WX.s1 rfl rfl ?_
  refine WX.mget rfl hm M_h350n15 rfl ?_
  refine WX.s1 rfl rfl ?_
  refine WX.mald (c := 40) rfl hm M_h350n15 (by decide) (by decide) (by decide) (by decide) (by unfold vp_in; decide) ?_
  refine WX.mast (c := 42) rfl hm M_h350n15 (by decide) (by decide) (by decide) (by decide) (by unfold vp_in; decide) (fun h350n16 A350n16 e_A350n16 M_h350n16 frh350n16 => ?_)
  have FR_h350n16 := FR_h350n15.ztr frh350n16
  clear M_h350n15 FR_h350n15 frh350n16 e_A350n16
  refine WX.s1 (L' := [(0, .ref m), (1, .int 0), (2, .int 0), (3, .int 1), (4, .int (nI c)), (5, .int (0 - 0)), (6, .int 0), (7, .int 0), (8, .int 2), (9, .int ((((8 + 1) + 1) + 1) + 1))]) rfl rfl ?_
  refine WX.s1 rfl rfl ?_
  refine WX.s1 rfl rfl ?_
  refine WX.s1 rfl rfl ?_
  refine WX.icmp rfl (fun c_334 => ?_) (fun c_334 => absurd (by decide) c_334)
  clear c_334
  refine WX.s1 rfl rfl ?_
  refine WX.s1 rfl rfl ?_
  refine WX.mput rfl hm M_h350n16 (rfl) (by decide) (fun _ => rfl) (fun h360n17 I360n17 e_I360n17 M_h360n17 frh360n17 => ?_)
  have FR_h360n17 := FR_h350n16.ztr frh360n17
  have FI_I360n17 : Fi I I360n17 (fun f => f = 40 ∨ f = 20 ∨ f = 25 ∨ f = 31 ∨ f = 33 ∨ f = 15) := FI_I323n12.zup e_I360n17 (by first | exact rfl | decide | omega)
  have K_I360n17_15 : I360n17 15 = 0 := by rw [e_I360n17]; exact (pk_un (by decide)).trans K_I323n12_15
  have K_I360n17_31 : I360n17 31 = 0 := by rw [e_I360n17]; exact (pk_un (by decide)).trans K_I323n12_31
  have K_I360n17_33 : I360n17 33 = 0 := by rw [e_I360n17]; exact (pk_un (by decide)).trans K_I323n12_33
  have K_I360n17_20 : I360n17 20 = 0 := by rw [e_I360n17]; exact (pk_un (by decide)).trans K_I323n12_20
  have K_I360n17_7 : I360n17 7 = 0 := by rw [e_I360n17]; exact (pk_un (by decide)).trans K_I323n12_7
  have K_I360n17_25 : I360n17 25 = 0 := by rw [e_I360n17]; exact (pk_un (by decide)).trans K_I323n12_25
  have K_I360n17_40 : I360n17 40 = (nI c) := by rw [e_I360n17]; exact pk_us
  clear M_h350n16 FR_h350n16 FI_I323n12 e_I360n17 frh360n17 K_I323n12_15 K_I323n12_40 K_I323n12_31 K_I323n12_33 K_I323n12_20 K_I323n12_7 K_I323n12_25
  refine WX.s1 rfl rfl ?_
  refine WX.s1 rfl rfl ?_
  refine WX.s1 rfl rfl ?_
  refine WX.s1 rfl rfl ?_
  refine WX.s1 rfl rfl ?_
  refine WX.callC (vs := [.ref m, .int (nI c), .int (0 - 0), .int 0, .int 1]) rfl rfl rfl (Nat.le_of_ble_eq_true rfl) (M_h360n17.rcv hm) ?_
  refine m_bhead hm M_h360n17 (by omega) K_I360n17_40 (fun h370n18 I370n18 A370n18 fr370n18 M_h370n18 fi370n18 K_I370n18_40 => ?_)
  have K_I370n18_15 : I370n18 15 = 0 := (fi370n18 15 (by decide)).trans K_I360n17_15
  have K_I370n18_31 : I370n18 31 = 0 := (fi370n18 31 (by decide)).trans K_I360n17_31
  have K_I370n18_33 : I370n18 33 = 0 := (fi370n18 33 (by decide)).trans K_I360n17_33
  have K_I370n18_20 : I370n18 20 = 0 := (fi370n18 20 (by decide)).trans K_I360n17_20
  have K_I370n18_7 : I370n18 7 = 0 := (fi370n18 7 (by decide)).trans K_I360n17_7
  have K_I370n18_25 : I370n18 25 = 0 := (fi370n18 25 (by decide)).trans K_I360n17_25
  have FR_h370n18 := FR_h360n17.ztr fr370n18
  have FI_I370n18 : Fi I I370n18 (fun f => f = 40 ∨ f = 20 ∨ f = 25 ∨ f = 31 ∨ f = 33 ∨ f = 15) := FI_I360n17.zsub fi370n18 (fun j hj => by omega)
  clear M_h360n17 FR_h360n17 FI_I360n17 fr370n18 fi370n18 K_I360n17_15 K_I360n17_31 K_I360n17_33 K_I360n17_20 K_I360n17_7 K_I360n17_25 K_I360n17_40
  show WX _ _ _ 373 [(0, .ref m), (1, .int 0), (2, .int 0), (3, .int 1), (4, .int (nI c)), (5, .int (0 - 0)), (6, .int 0), (7, .int 0), (8, .int 2), (9, .int ((((8 + 1) + 1) + 1) + 1))] [] (n, s, h370n18)
  refine WX.s1 rfl rfl ?_
  refine WX.s1 (L' := [(0, .ref m), (1, .int 0), (2, .int 0), (3, .int 1), (4, .int (nI c)), (5, .int (0 - 0)), (6, .int 0), (7, .int 0), (8, .int 2), (9, .int 0)]) rfl rfl ?_
  refine WX.s1 rfl rfl ?_
  refine WX.s1 rfl rfl ?_
  refine WX.icmp rfl (fun c_379 => ?_) (fun c_379 => absurd (by decide) c_379)
  clear c_379
  refine WX.s1 rfl rfl ?_
  refine WX.mget rfl hm M_h370n18 rfl ?_
  refine WX.s1 rfl rfl ?_
  refine WX.s1 rfl rfl ?_
  refine WX.mald (c := 42) rfl hm M_h370n18 (by decide) (by decide) (by decide) (by decide) (by unfold vp_in; decide) ?_
  refine WX.s1 rfl rfl ?_
  refine WX.s1 rfl rfl ?_
  refine WX.mast (c := 42) rfl hm M_h370n18 (by decide) (by decide) (by decide) (by decide) (by unfold vp_in; decide) (fun h408n19 A408n19 e_A408n19 M_h408n19 frh408n19 => ?_)
  have FR_h408n19 := FR_h370n18.ztr frh408n19
  clear M_h370n18 FR_h370n18 frh408n19 e_A408n19
  exact WX.ret0 rfl (kk h408n19 I370n18 A408n19 FR_h408n19 M_h408n19 FI_I370n18 K_I370n18_40)
set_option maxRecDepth 20000 in
theorem m_sum0 {d n s : Nat} {h : Nat → aE} {m : Nat} {I : Nat → Int32} {AR : Nat → Nat → Int32} {LN : Nat → Int64}  (hm : m + 43 < n) (M_h : MAt h m I AR LN)  (K_I_1 : I 1 = 0) {Ψ : Option Value → aH → Prop} (kk : ∀ x, Ψ (some (.long x)) (n, s, h)) : WO (mM (d + 1)) 212 [.ref m] (n, s, h) Ψ := by
  refine WO.of (Nat.le_of_ble_eq_true rfl) ?_
  have FR_h : Fr h h (inM m) := Fr.rf
  have FI_I : Fi I I (fun f => f = 40) := Fi.rf
  show WX (lk tX12_sum) (mM d) Ψ 0 [(0, .ref m)] [] (n, s, h)
  refine WX.s1 rfl rfl ?_
  refine WX.s1 (L' := [(0, .ref m), (1, .long (-7046029288634856825))]) rfl rfl ?_
  refine WX.s1 rfl rfl ?_
  refine WX.s1 (L' := [(0, .ref m), (1, .long (-7046029288634856825)), (3, .long (-4417276706812531889))]) rfl rfl ?_
  refine WX.s1 rfl rfl ?_
  refine WX.s1 (L' := [(0, .ref m), (1, .long (-7046029288634856825)), (3, .long (-4417276706812531889)), (5, .long 1609587929392839161)]) rfl rfl ?_
  refine WX.s1 rfl rfl ?_
  refine WX.s1 (L' := [(0, .ref m), (1, .long (-7046029288634856825)), (3, .long (-4417276706812531889)), (5, .long 1609587929392839161), (7, .long (-8796714831421723037))]) rfl rfl ?_
  refine WX.s1 rfl rfl ?_
  refine WX.s1 (L' := [(0, .ref m), (1, .long (-7046029288634856825)), (3, .long (-4417276706812531889)), (5, .long 1609587929392839161), (7, .long (-8796714831421723037)), (9, .long 2870177450012600261)]) rfl rfl ?_
  refine WX.s1 rfl rfl ?_
  refine WX.s1 (L' := [(0, .ref m), (1, .long (-7046029288634856825)), (3, .long (-4417276706812531889)), (5, .long 1609587929392839161), (7, .long (-8796714831421723037)), (9, .long 2870177450012600261), (11, .long 2870177450012600261)]) rfl rfl ?_
  refine WX.s1 rfl rfl ?_
  refine WX.s1 (L' := [(0, .ref m), (1, .long (-7046029288634856825)), (3, .long (-4417276706812531889)), (5, .long 1609587929392839161), (7, .long (-8796714831421723037)), (9, .long 2870177450012600261), (11, .long 2870177450012600261), (13, .int 0)]) rfl rfl ?_
  refine WX.s1 rfl rfl ?_
  refine WX.mgetK (x := 0) rfl hm M_h rfl K_I_1 ?_
  refine WX.s1 rfl rfl ?_
  refine WX.icmp rfl (fun c_36 => ?_) (fun c_36 => absurd (by decide) c_36)
  clear c_36
  refine WX.s1 rfl rfl ?_
  refine WX.s1 rfl rfl ?_
  refine WX.mgetK (x := 0) rfl hm M_h rfl K_I_1 ?_
  refine WX.s1 rfl rfl ?_
  refine WX.s1 rfl rfl ?_
  refine WX.lsN (L' := fun x233 => [(0, .ref m), (1, .long (-7046029288634856825)), (3, .long (-4417276706812531889)), (5, .long 1609587929392839161), (7, .long (-8796714831421723037)), (9, .long 2870177450012600261), (11, .long x233), (13, .int 0)]) rfl (fun _ => rfl) (fun x233 e_x233 => ?_)
  try dsimp only at e_x233
  refine WX.s1 rfl rfl ?_
  refine WX.mgetK (x := 0) rfl hm M_h rfl K_I_1 ?_
  refine WX.s1 rfl rfl ?_
  refine WX.s1 rfl rfl ?_
  refine WX.s1 rfl rfl ?_
  refine WX.icmp rfl (fun c_244 => ?_) (fun c_244 => absurd (by decide) c_244)
  clear c_244
  refine WX.s1 rfl rfl ?_
  refine WX.mgetK (x := 0) rfl hm M_h rfl K_I_1 ?_
  refine WX.s1 rfl rfl ?_
  refine WX.s1 rfl rfl ?_
  refine WX.s1 rfl rfl ?_
  refine WX.icmp rfl (fun c_293 => ?_) (fun c_293 => absurd (by decide) c_293)
  clear c_293
  refine WX.s1 rfl rfl ?_
  refine WX.s1 rfl rfl ?_
  refine WX.mgetK (x := 0) rfl hm M_h rfl K_I_1 ?_
  refine WX.icmp rfl (fun c_329 => ?_) (fun c_329 => absurd (by decide) c_329)
  clear c_329
  refine WX.s1 rfl rfl ?_
  refine WX.s1 rfl rfl ?_
  refine WX.s1 rfl rfl ?_
  refine WX.s1 rfl rfl ?_
  refine WX.s1 rfl rfl ?_
  refine WX.s1 rfl rfl ?_
  refine WX.s1 rfl rfl ?_
  refine WX.lsN (L' := fun x371 => [(0, .ref m), (1, .long (-7046029288634856825)), (3, .long (-4417276706812531889)), (5, .long 1609587929392839161), (7, .long (-8796714831421723037)), (9, .long 2870177450012600261), (11, .long x371), (13, .int 0)]) rfl (fun _ => rfl) (fun x371 e_x371 => ?_)
  try dsimp only at e_x371
  refine WX.s1 rfl rfl ?_
  refine WX.s1 rfl rfl ?_
  refine WX.s1 rfl rfl ?_
  refine WX.s1 rfl rfl ?_
  refine WX.s1 rfl rfl ?_
  refine WX.s1 rfl rfl ?_
  refine WX.s1 rfl rfl ?_
  refine WX.lsN (L' := fun x384 => [(0, .ref m), (1, .long (-7046029288634856825)), (3, .long (-4417276706812531889)), (5, .long 1609587929392839161), (7, .long (-8796714831421723037)), (9, .long 2870177450012600261), (11, .long x384), (13, .int 0)]) rfl (fun _ => rfl) (fun x384 e_x384 => ?_)
  try dsimp only at e_x384
  refine WX.s1 rfl rfl ?_
  refine WX.s1 rfl rfl ?_
  refine WX.s1 rfl rfl ?_
  refine WX.s1 rfl rfl ?_
  refine WX.s1 rfl rfl ?_
  exact WX.ret2 rfl (kk _)
set_option maxRecDepth 20000 in
theorem m_show {d n s : Nat} {h : Nat → aE} {m : Nat} {I : Nat → Int32} {AR : Nat → Nat → Int32} {LN : Nat → Int64} {c : Nat} (hm : m + 43 < n) (M_h : MAt h m I AR LN) (hc : c ≤ 12000) (K_I_40 : I 40 = (nI c)) {Ψ : Option Value → aH → Prop} (kk : ∀ h' I' A', Fr h h' (inM m) → MAt h' m I' A' LN → Fi I I' (fun f => f = 3) → I' 3 = nI c → Ψ (some (.int (nI c))) (n, s, h')) : WO (mM (d + 1)) 153 [.ref m] (n, s, h) Ψ := by
  refine WO.of (Nat.le_of_ble_eq_true rfl) ?_
  have FR_h : Fr h h (inM m) := Fr.rf
  have FI_I : Fi I I (fun f => f = 3) := Fi.rf
  show WX (lk tX12_show) (mM d) Ψ 0 [(0, .ref m)] [] (n, s, h)
  refine WX.s1 rfl rfl ?_
  refine WX.mgetK (x := (nI c)) rfl hm M_h rfl K_I_40 ?_
  refine WX.s1 rfl rfl ?_
  refine WX.icmp rfl (fun c_7 => ?_) (fun c_7 => absurd (nI_le (b := 12000) (by omega) (by omega)) c_7)
  refine WX.s1 rfl rfl ?_
  refine WX.s1 (L' := [(0, .ref m), (1, .int 0)]) rfl rfl ?_
  have lp14 : ∀ (t i : Nat) (hL : Nat → aE) (AL : Nat → Nat → Int32), i + t = c → MAt hL m I AL LN → Fr h hL (inM m) → WX (lk tX12_show) (mM d) Ψ 14 [(0, .ref m), (1, .int (nI i))] [] (n, s, hL) := by
    clear M_h FR_h
    intro t
    induction t with
    | zero =>
      intro i hL AL ht M_hL FR_hL
      refine WX.s1 rfl rfl ?_
      refine WX.s1 rfl rfl ?_
      refine WX.mgetK (x := (nI c)) rfl hm M_hL rfl K_I_40 ?_
      refine WX.icmp rfl (fun c_19 => ?_) (fun c_19 => absurd (nI_le (a := c) (by omega) (by omega)) c_19)
      refine WX.s1 rfl rfl ?_
      refine WX.s1 rfl rfl ?_
      refine WX.mgetK (x := (nI c)) rfl hm M_hL rfl K_I_40 ?_
      refine WX.mput rfl hm M_hL (rfl) (by decide) (fun _ => rfl) (fun h45n1 I45n1 e_I45n1 M_h45n1 frh45n1 => ?_)
      have FR_h45n1 := FR_hL.ztr frh45n1
      have FI_I45n1 : Fi I I45n1 (fun f => f = 3) := FI_I.zup e_I45n1 (by first | exact rfl | decide | omega)
      have K_I45n1_40 : I45n1 40 = (nI c) := by rw [e_I45n1]; exact (pk_un (by decide)).trans K_I_40
      have K_I45n1_3 : I45n1 3 = (nI c) := by rw [e_I45n1]; exact pk_us
      clear M_hL FR_hL FI_I e_I45n1 frh45n1 K_I_40
      refine WX.s1 rfl rfl ?_
      refine WX.mgetK (x := (nI c)) rfl hm M_h45n1 rfl K_I45n1_3 ?_
      exact WX.ret1 rfl (kk h45n1 I45n1 AL FR_h45n1 M_h45n1 FI_I45n1 K_I45n1_3)
    | succ t ih =>
      intro i hL AL ht M_hL FR_hL
      refine WX.s1 rfl rfl ?_
      refine WX.s1 rfl rfl ?_
      refine WX.mgetK (x := (nI c)) rfl hm M_hL rfl K_I_40 ?_
      refine WX.icmp rfl (fun c_19 => absurd c_19 (nI_ge (b := c) (by omega) (by omega))) (fun c_19 => ?_)
      refine WX.s1 rfl rfl ?_
      refine WX.mget rfl hm M_hL rfl ?_
      refine WX.s1 rfl rfl ?_
      refine WX.s1 rfl rfl ?_
      refine WX.mget rfl hm M_hL rfl ?_
      refine WX.s1 rfl rfl ?_
      refine WX.mald (c := 25) rfl hm M_hL (by decide) (by decide) (by decide) (by decide) (vp_in_nI (N := 12000) (by omega) (by decide)) ?_
      refine WX.mast (c := 2) rfl hm M_hL (by decide) (by decide) (by decide) (by decide) (vp_in_nI (N := 12000) (by omega) (by decide)) (fun h33n2 A33n2 e_A33n2 M_h33n2 frh33n2 => ?_)
      have FR_h33n2 := FR_hL.ztr frh33n2
      clear M_hL FR_hL frh33n2 e_A33n2
      refine WX.s1 (L' := [(0, .ref m), (1, .int ((nI i) + 1))]) rfl rfl ?_
      refine WX.s1 rfl rfl ?_
      rw [nI_1 i]
      exact ih (i + 1) h33n2 A33n2 (by omega) M_h33n2 FR_h33n2
  exact lp14 c 0 h AR (by omega) M_h FR_h
set_option maxRecDepth 20000 in
theorem m_press0 {d n s : Nat} {h : Nat → aE} {m : Nat} {I : Nat → Int32} {AR : Nat → Nat → Int32} {LN : Nat → Int64} {fl e cut : Int32} (hm : m + 43 < n) (M_h : MAt h m I AR LN)  (K_I_1 : I 1 = 0) (K_I_8 : I 8 = 0) (K_I_7 : I 7 = 0) (K_I_9 : I 9 = 0) {Ψ : Option Value → aH → Prop} (k0 : pBad fl e cut → Ψ (some (.int (-1))) (n, s, h)) (k1 : ∀ h', ¬ pBad fl e cut → Fr h h' (inM m) → Ψ (some (.int (nI (pCnt fl)))) (n, s, h')) : WO (mM (d + 5)) 208 [.ref m, .int fl, .int e, .int cut] (n, s, h) Ψ := by
  refine WO.of (Nat.le_of_ble_eq_true rfl) ?_
  have FR_h : Fr h h (inM m) := Fr.rf
  have FI_I : Fi I I (fun f => f = 40 ∨ f = 20 ∨ f = 25 ∨ f = 31 ∨ f = 33 ∨ f = 15 ∨ f = 27 ∨ f = 3) := Fi.rf
  show WX (lk tX12_press) (mM (d + 4)) Ψ 0 [(0, .ref m), (1, .int fl), (2, .int e), (3, .int cut)] [] (n, s, h)
  refine WX.s1 rfl rfl ?_
  refine WX.s1 rfl rfl ?_
  refine WX.s1 rfl rfl ?_
  refine WX.if_ rfl (fun c_3 => ?_) (fun c_3 => ?_)
  · skip
    refine WX.s1 rfl rfl ?_
    refine WX.s1 (L' := [(0, .ref m), (1, .int fl), (2, .int e), (3, .int cut), (4, .int 0)]) rfl rfl ?_
    refine WX.s1 rfl rfl ?_
    refine WX.if_ rfl (fun c_14 => ?_) (fun c_14 => ?_)
    · skip
      refine WX.s1 rfl rfl ?_
      refine WX.ret1 rfl (k0 ?_)
      unfold pBad
      first
        | exact Or.inl c_14
        | exact Or.inr (Or.inl c_20)
        | exact Or.inr (Or.inr (Or.inl c_24))
        | exact Or.inr (Or.inr (Or.inr (Or.inl c_30)))
        | exact Or.inr (Or.inr (Or.inr (Or.inr (Or.inl c_35))))
        | exact Or.inr (Or.inr (Or.inr (Or.inr (Or.inr (Or.inl c_42)))))
        | exact Or.inr (Or.inr (Or.inr (Or.inr (Or.inr (Or.inr ⟨c_3, Int32.not_le.mp c_57⟩)))))
    · skip
      refine WX.s1 rfl rfl ?_
      refine WX.s1 rfl rfl ?_
      refine WX.icmp rfl (fun c_20 => ?_) (fun c_20 => ?_)
      · skip
        refine WX.s1 rfl rfl ?_
        refine WX.ret1 rfl (k0 ?_)
        unfold pBad
        first
          | exact Or.inl c_14
          | exact Or.inr (Or.inl c_20)
          | exact Or.inr (Or.inr (Or.inl c_24))
          | exact Or.inr (Or.inr (Or.inr (Or.inl c_30)))
          | exact Or.inr (Or.inr (Or.inr (Or.inr (Or.inl c_35))))
          | exact Or.inr (Or.inr (Or.inr (Or.inr (Or.inr (Or.inl c_42)))))
          | exact Or.inr (Or.inr (Or.inr (Or.inr (Or.inr (Or.inr ⟨c_3, Int32.not_le.mp c_57⟩)))))
      · skip
        refine WX.s1 rfl rfl ?_
        refine WX.if_ rfl (fun c_24 => ?_) (fun c_24 => ?_)
        · skip
          refine WX.s1 rfl rfl ?_
          refine WX.ret1 rfl (k0 ?_)
          unfold pBad
          first
            | exact Or.inl c_14
            | exact Or.inr (Or.inl c_20)
            | exact Or.inr (Or.inr (Or.inl c_24))
            | exact Or.inr (Or.inr (Or.inr (Or.inl c_30)))
            | exact Or.inr (Or.inr (Or.inr (Or.inr (Or.inl c_35))))
            | exact Or.inr (Or.inr (Or.inr (Or.inr (Or.inr (Or.inl c_42)))))
            | exact Or.inr (Or.inr (Or.inr (Or.inr (Or.inr (Or.inr ⟨c_3, Int32.not_le.mp c_57⟩)))))
        · skip
          refine WX.s1 rfl rfl ?_
          refine WX.s1 rfl rfl ?_
          refine WX.icmp rfl (fun c_30 => ?_) (fun c_30 => ?_)
          · skip
            refine WX.s1 rfl rfl ?_
            refine WX.ret1 rfl (k0 ?_)
            unfold pBad
            first
              | exact Or.inl c_14
              | exact Or.inr (Or.inl c_20)
              | exact Or.inr (Or.inr (Or.inl c_24))
              | exact Or.inr (Or.inr (Or.inr (Or.inl c_30)))
              | exact Or.inr (Or.inr (Or.inr (Or.inr (Or.inl c_35))))
              | exact Or.inr (Or.inr (Or.inr (Or.inr (Or.inr (Or.inl c_42)))))
              | exact Or.inr (Or.inr (Or.inr (Or.inr (Or.inr (Or.inr ⟨c_3, Int32.not_le.mp c_57⟩)))))
          · skip
            refine WX.s1 rfl rfl ?_
            refine WX.s1 rfl rfl ?_
            refine WX.icmp rfl (fun c_35 => ?_) (fun c_35 => ?_)
            · skip
              refine WX.s1 rfl rfl ?_
              refine WX.ret1 rfl (k0 ?_)
              unfold pBad
              first
                | exact Or.inl c_14
                | exact Or.inr (Or.inl c_20)
                | exact Or.inr (Or.inr (Or.inl c_24))
                | exact Or.inr (Or.inr (Or.inr (Or.inl c_30)))
                | exact Or.inr (Or.inr (Or.inr (Or.inr (Or.inl c_35))))
                | exact Or.inr (Or.inr (Or.inr (Or.inr (Or.inr (Or.inl c_42)))))
                | exact Or.inr (Or.inr (Or.inr (Or.inr (Or.inr (Or.inr ⟨c_3, Int32.not_le.mp c_57⟩)))))
            · skip
              refine WX.s1 rfl rfl ?_
              refine WX.s1 rfl rfl ?_
              refine WX.icmp rfl (fun c_42 => ?_) (fun c_42 => ?_)
              · skip
                refine WX.s1 rfl rfl ?_
                refine WX.ret1 rfl (k0 ?_)
                unfold pBad
                first
                  | exact Or.inl c_14
                  | exact Or.inr (Or.inl c_20)
                  | exact Or.inr (Or.inr (Or.inl c_24))
                  | exact Or.inr (Or.inr (Or.inr (Or.inl c_30)))
                  | exact Or.inr (Or.inr (Or.inr (Or.inr (Or.inl c_35))))
                  | exact Or.inr (Or.inr (Or.inr (Or.inr (Or.inr (Or.inl c_42)))))
                  | exact Or.inr (Or.inr (Or.inr (Or.inr (Or.inr (Or.inr ⟨c_3, Int32.not_le.mp c_57⟩)))))
              · skip
                refine WX.s1 rfl rfl ?_
                refine WX.if_ rfl (fun c_47 => absurd c_47 (by decide)) (fun c_47 => ?_)
                clear c_47
                refine WX.s1 rfl rfl ?_
                refine WX.s1 rfl rfl ?_
                refine WX.s1 rfl rfl ?_
                refine WX.s1 rfl rfl ?_
                refine WX.s1 rfl rfl ?_
                refine WX.s1 rfl rfl ?_
                refine WX.icmp rfl (fun c_57 => ?_) (fun c_57 => ?_)
                · skip
                  have hgood : ¬ pBad fl e cut := by
                    rintro (q | q | q | q | q | q | q)
                    · exact c_14 q
                    · exact c_20 q
                    · exact c_24 q
                    · exact c_30 q
                    · exact c_35 q
                    · exact c_42 q
                    · exact (Int32.not_lt.mpr c_57) q.2
                  have hcut : ¬ cut < 1 := c_35
                  refine WX.s1 rfl rfl ?_
                  refine WX.s1 (L' := [(0, .ref m), (1, .int fl), (2, .int e), (3, .int cut), (4, .int 0), (5, .int 0)]) rfl rfl ?_
                  have lp65 : ∀ (t i : Nat) (hL : Nat → aE) (AL : Nat → Nat → Int32), i + t = 12 → MAt hL m I AL LN → Fr h hL (inM m) → WX (lk tX12_press) (mM (d + 4)) Ψ 65 [(0, .ref m), (1, .int fl), (2, .int e), (3, .int cut), (4, .int 0), (5, .int (nI i))] [] (n, s, hL) := by
                    clear M_h FR_h
                    intro t
                    induction t with
                    | zero =>
                      intro i hL AL ht M_hL FR_hL
                      refine WX.s1 rfl rfl ?_
                      refine WX.s1 rfl rfl ?_
                      refine WX.icmp rfl (fun c_69 => ?_) (fun c_69 => absurd (nI_le (a := 12) (by omega) (by omega)) c_69)
                      refine WX.s1 rfl rfl ?_
                      refine WX.s1 rfl rfl ?_
                      refine WX.mput rfl hm M_hL (rfl) (by decide) (fun _ => rfl) (fun h88n1 I88n1 e_I88n1 M_h88n1 frh88n1 => ?_)
                      have FR_h88n1 := FR_hL.ztr frh88n1
                      have FI_I88n1 : Fi I I88n1 (fun f => f = 40 ∨ f = 20 ∨ f = 25 ∨ f = 31 ∨ f = 33 ∨ f = 15 ∨ f = 27 ∨ f = 3) := FI_I.zup e_I88n1 (by first | exact rfl | decide | omega)
                      have K_I88n1_1 : I88n1 1 = 0 := by rw [e_I88n1]; exact (pk_un (by decide)).trans K_I_1
                      have K_I88n1_8 : I88n1 8 = 0 := by rw [e_I88n1]; exact (pk_un (by decide)).trans K_I_8
                      have K_I88n1_7 : I88n1 7 = 0 := by rw [e_I88n1]; exact (pk_un (by decide)).trans K_I_7
                      have K_I88n1_9 : I88n1 9 = 0 := by rw [e_I88n1]; exact (pk_un (by decide)).trans K_I_9
                      have K_I88n1_40 : I88n1 40 = (nI 0) := by rw [e_I88n1]; exact pk_us.trans (rfl)
                      clear M_hL FR_hL FI_I e_I88n1 frh88n1 K_I_1 K_I_8 K_I_7 K_I_9
                      refine WX.s1 rfl rfl ?_
                      refine WX.if_ rfl (fun c_93 => absurd c_93 (by decide)) (fun c_93 => ?_)
                      clear c_93
                      refine WX.s1 rfl rfl ?_
                      refine WX.s1 rfl rfl ?_
                      refine WX.s1 rfl rfl ?_
                      refine WX.if_ rfl (fun c_99 => ?_) (fun c_99 => ?_)
                      · skip
                        refine WX.s1 rfl rfl ?_
                        refine WX.s1 (L' := [(0, .ref m), (1, .int fl), (2, .int e), (3, .int cut), (4, .int 0), (5, .int 0)]) rfl rfl ?_
                        refine WX.s1 rfl rfl ?_
                        refine WX.if_ rfl (fun c_111 => absurd c_111 (by decide)) (fun c_111 => ?_)
                        clear c_111
                        refine WX.s1 rfl rfl ?_
                        refine WX.s1 rfl rfl ?_
                        refine WX.s1 (L' := [(0, .ref m), (1, .int fl), (2, .int e), (3, .int cut), (4, .int 0), (5, .int 0), (6, .int 0)]) rfl rfl ?_
                        refine WX.s1 rfl rfl ?_
                        refine WX.mgetK (x := 0) rfl hm M_h88n1 rfl K_I88n1_8 ?_
                        refine WX.s1 rfl rfl ?_
                        refine WX.s1 rfl rfl ?_
                        refine WX.s1 rfl rfl ?_
                        refine WX.lsN (L' := fun x163 => [(0, .ref m), (1, .int fl), (2, .int e), (3, .int cut), (4, .int 0), (5, .int 0), (6, .int 0), (7, .long x163)]) rfl (fun _ => rfl) (fun x163 e_x163 => ?_)
                        try dsimp only at e_x163
                        obtain rfl : x163 = 0 := e_x163.trans (by decide)
                        clear e_x163
                        have t210 : WX (lk tX12_press) (mM (d + 4)) Ψ 210 [(0, .ref m), (1, .int fl), (2, .int e), (3, .int cut), (4, .int 0), (5, .int 0), (6, .int 0), (7, .long 0)] [.int 0] (n, s, h88n1) := by
                          refine WX.s1 (L' := [(0, .ref m), (1, .int fl), (2, .int e), (3, .int cut), (4, .int 0), (5, .int 0), (6, .int 0), (7, .long 0), (9, .int 0)]) rfl rfl ?_
                          refine WX.s1 rfl rfl ?_
                          refine WX.s1 rfl rfl ?_
                          refine WX.s1 rfl rfl ?_
                          refine WX.callC (vs := [.ref m, .long 4247762216, .int 4]) rfl rfl rfl (Nat.le_of_ble_eq_true rfl) (M_h88n1.rcv hm) ?_
                          refine m_sayNum hm M_h88n1 (b := 4) (by decide) (by decide) K_I88n1_40 (fun h217n2 I217n2 A217n2 fr217n2 M_h217n2 fi217n2 K_I217n2_40 => ?_)
                          have K_I217n2_1 : I217n2 1 = 0 := (fi217n2 1 (by decide)).trans K_I88n1_1
                          have K_I217n2_8 : I217n2 8 = 0 := (fi217n2 8 (by decide)).trans K_I88n1_8
                          have K_I217n2_7 : I217n2 7 = 0 := (fi217n2 7 (by decide)).trans K_I88n1_7
                          have K_I217n2_9 : I217n2 9 = 0 := (fi217n2 9 (by decide)).trans K_I88n1_9
                          have FR_h217n2 := FR_h88n1.ztr fr217n2
                          have FI_I217n2 : Fi I I217n2 (fun f => f = 40 ∨ f = 20 ∨ f = 25 ∨ f = 31 ∨ f = 33 ∨ f = 15 ∨ f = 27 ∨ f = 3) := FI_I88n1.zsub fi217n2 (fun j hj => by omega)
                          clear M_h88n1 FR_h88n1 FI_I88n1 fr217n2 fi217n2 K_I88n1_1 K_I88n1_8 K_I88n1_7 K_I88n1_9 K_I88n1_40
                          show WX _ _ _ 220 [(0, .ref m), (1, .int fl), (2, .int e), (3, .int cut), (4, .int 0), (5, .int 0), (6, .int 0), (7, .long 0), (9, .int 0)] [] (n, s, h217n2)
                          refine WX.s1 rfl rfl ?_
                          refine WX.s1 rfl rfl ?_
                          refine WX.s1 rfl rfl ?_
                          refine WX.s1 rfl rfl ?_
                          refine WX.s1 rfl rfl ?_
                          refine WX.if_ rfl (fun c_228 => ?_) (fun c_228 => absurd (by decide) c_228)
                          clear c_228
                          refine WX.s1 rfl rfl ?_
                          refine WX.s1 rfl rfl ?_
                          have t249 : ∀ v, WX (lk tX12_press) (mM (d + 4)) Ψ 249 [(0, .ref m), (1, .int fl), (2, .int e), (3, .int cut), (4, .int 0), (5, .int 0), (6, .int 0), (7, .long 0), (9, .int 0)] [.int v, .int ((64 * 0) + 0), .ref m] (n, s, h217n2) := by
                            intro v
                            refine WX.s1 rfl rfl ?_
                            refine WX.s1 rfl rfl ?_
                            refine WX.s1 rfl rfl ?_
                            refine WX.callC (vs := [.ref m, .int ((((64 * 0) + 0) + v) + 0)]) rfl rfl rfl (Nat.le_of_ble_eq_true rfl) (M_h217n2.rcv hm) ?_
                            refine m_say hm M_h217n2 (by decide) K_I217n2_40 (fun h253n3 I253n3 A253n3 fr253n3 M_h253n3 fi253n3 K_I253n3_40 => ?_)
                            have K_I253n3_1 : I253n3 1 = 0 := (fi253n3 1 (by decide)).trans K_I217n2_1
                            have K_I253n3_8 : I253n3 8 = 0 := (fi253n3 8 (by decide)).trans K_I217n2_8
                            have K_I253n3_7 : I253n3 7 = 0 := (fi253n3 7 (by decide)).trans K_I217n2_7
                            have K_I253n3_9 : I253n3 9 = 0 := (fi253n3 9 (by decide)).trans K_I217n2_9
                            have FR_h253n3 := FR_h217n2.ztr fr253n3
                            have FI_I253n3 : Fi I I253n3 (fun f => f = 40 ∨ f = 20 ∨ f = 25 ∨ f = 31 ∨ f = 33 ∨ f = 15 ∨ f = 27 ∨ f = 3) := FI_I217n2.zsub fi253n3 (fun j hj => by omega)
                            clear M_h217n2 FR_h217n2 FI_I217n2 fr253n3 fi253n3 K_I217n2_40 K_I217n2_1 K_I217n2_8 K_I217n2_7 K_I217n2_9
                            show WX _ _ _ 256 [(0, .ref m), (1, .int fl), (2, .int e), (3, .int cut), (4, .int 0), (5, .int 0), (6, .int 0), (7, .long 0), (9, .int 0)] [] (n, s, h253n3)
                            refine WX.s1 rfl rfl ?_
                            refine WX.if_ rfl (fun c_258 => absurd c_258 (by decide)) (fun c_258 => ?_)
                            clear c_258
                            refine WX.s1 rfl rfl ?_
                            refine WX.s1 rfl rfl ?_
                            refine WX.s1 rfl rfl ?_
                            refine WX.s1 rfl rfl ?_
                            refine WX.callC (vs := [.ref m, .int (8 * e)]) rfl rfl rfl (Nat.le_of_ble_eq_true rfl) (M_h253n3.rcv hm) ?_
                            refine m_say hm M_h253n3 (by decide) K_I253n3_40 (fun h266n4 I266n4 A266n4 fr266n4 M_h266n4 fi266n4 K_I266n4_40 => ?_)
                            have K_I266n4_1 : I266n4 1 = 0 := (fi266n4 1 (by decide)).trans K_I253n3_1
                            have K_I266n4_8 : I266n4 8 = 0 := (fi266n4 8 (by decide)).trans K_I253n3_8
                            have K_I266n4_7 : I266n4 7 = 0 := (fi266n4 7 (by decide)).trans K_I253n3_7
                            have K_I266n4_9 : I266n4 9 = 0 := (fi266n4 9 (by decide)).trans K_I253n3_9
                            have FR_h266n4 := FR_h253n3.ztr fr266n4
                            have FI_I266n4 : Fi I I266n4 (fun f => f = 40 ∨ f = 20 ∨ f = 25 ∨ f = 31 ∨ f = 33 ∨ f = 15 ∨ f = 27 ∨ f = 3) := FI_I253n3.zsub fi266n4 (fun j hj => by omega)
                            clear M_h253n3 FR_h253n3 FI_I253n3 fr266n4 fi266n4 K_I253n3_40 K_I253n3_1 K_I253n3_8 K_I253n3_7 K_I253n3_9
                            show WX _ _ _ 269 [(0, .ref m), (1, .int fl), (2, .int e), (3, .int cut), (4, .int 0), (5, .int 0), (6, .int 0), (7, .long 0), (9, .int 0)] [] (n, s, h266n4)
                            refine WX.s1 rfl rfl ?_
                            refine WX.s1 rfl rfl ?_
                            refine WX.s1 rfl rfl ?_
                            refine WX.s1 rfl rfl ?_
                            refine WX.icmp rfl (fun c_275 => ?_) (fun c_275 => absurd (by decide) c_275)
                            clear c_275
                            refine WX.s1 rfl rfl ?_
                            refine WX.callC (vs := [.ref m, .long 0, .int 0]) rfl rfl rfl (Nat.le_of_ble_eq_true rfl) (M_h266n4.rcv hm) ?_
                            refine m_sayNum hm M_h266n4 (b := 0) (by decide) (by decide) K_I266n4_40 (fun h284n5 I284n5 A284n5 fr284n5 M_h284n5 fi284n5 K_I284n5_40 => ?_)
                            have K_I284n5_1 : I284n5 1 = 0 := (fi284n5 1 (by decide)).trans K_I266n4_1
                            have K_I284n5_8 : I284n5 8 = 0 := (fi284n5 8 (by decide)).trans K_I266n4_8
                            have K_I284n5_7 : I284n5 7 = 0 := (fi284n5 7 (by decide)).trans K_I266n4_7
                            have K_I284n5_9 : I284n5 9 = 0 := (fi284n5 9 (by decide)).trans K_I266n4_9
                            have FR_h284n5 := FR_h266n4.ztr fr284n5
                            have FI_I284n5 : Fi I I284n5 (fun f => f = 40 ∨ f = 20 ∨ f = 25 ∨ f = 31 ∨ f = 33 ∨ f = 15 ∨ f = 27 ∨ f = 3) := FI_I266n4.zsub fi284n5 (fun j hj => by omega)
                            clear M_h266n4 FR_h266n4 FI_I266n4 fr284n5 fi284n5 K_I266n4_40 K_I266n4_1 K_I266n4_8 K_I266n4_7 K_I266n4_9
                            show WX _ _ _ 287 [(0, .ref m), (1, .int fl), (2, .int e), (3, .int cut), (4, .int 0), (5, .int 0), (6, .int 0), (7, .long 0), (9, .int 0)] [] (n, s, h284n5)
                            refine WX.s1 rfl rfl ?_
                            refine WX.if_ rfl (fun c_289 => ?_) (fun c_289 => absurd (by decide) c_289)
                            clear c_289
                            refine WX.s1 rfl rfl ?_
                            refine WX.s1 rfl rfl ?_
                            refine WX.if_ rfl (fun c_342 => ?_) (fun c_342 => absurd (by decide) c_342)
                            clear c_342
                            refine WX.s1 rfl rfl ?_
                            refine WX.s1 rfl rfl ?_
                            refine WX.s1 rfl rfl ?_
                            refine WX.s1 rfl rfl ?_
                            refine WX.s1 rfl rfl ?_
                            refine WX.mput rfl hm M_h284n5 (rfl) (by decide) (fun _ => rfl) (fun h358n6 I358n6 e_I358n6 M_h358n6 frh358n6 => ?_)
                            have FR_h358n6 := FR_h284n5.ztr frh358n6
                            have FI_I358n6 : Fi I I358n6 (fun f => f = 40 ∨ f = 20 ∨ f = 25 ∨ f = 31 ∨ f = 33 ∨ f = 15 ∨ f = 27 ∨ f = 3) := FI_I284n5.zup e_I358n6 (by first | exact rfl | decide | omega)
                            have K_I358n6_40 : I358n6 40 = (nI 6) := by rw [e_I358n6]; exact (pk_un (by decide)).trans K_I284n5_40
                            have K_I358n6_1 : I358n6 1 = 0 := by rw [e_I358n6]; exact (pk_un (by decide)).trans K_I284n5_1
                            have K_I358n6_8 : I358n6 8 = 0 := by rw [e_I358n6]; exact (pk_un (by decide)).trans K_I284n5_8
                            have K_I358n6_7 : I358n6 7 = 0 := by rw [e_I358n6]; exact (pk_un (by decide)).trans K_I284n5_7
                            have K_I358n6_9 : I358n6 9 = 0 := by rw [e_I358n6]; exact (pk_un (by decide)).trans K_I284n5_9
                            clear M_h284n5 FR_h284n5 FI_I284n5 e_I358n6 frh358n6 K_I284n5_40 K_I284n5_1 K_I284n5_8 K_I284n5_7 K_I284n5_9
                            refine WX.s1 rfl rfl ?_
                            refine WX.callC (vs := [.ref m]) rfl rfl rfl (Nat.le_of_ble_eq_true rfl) (M_h358n6.rcv hm) ?_
                            refine m_begf hm M_h358n6 K_I358n6_9 (fun h362n7 I362n7 A362n7 fr362n7 M_h362n7 fi362n7 K_I362n7_15 => ?_)
                            have K_I362n7_40 : I362n7 40 = (nI 6) := (fi362n7 40 (by decide)).trans K_I358n6_40
                            have K_I362n7_1 : I362n7 1 = 0 := (fi362n7 1 (by decide)).trans K_I358n6_1
                            have K_I362n7_8 : I362n7 8 = 0 := (fi362n7 8 (by decide)).trans K_I358n6_8
                            have K_I362n7_7 : I362n7 7 = 0 := (fi362n7 7 (by decide)).trans K_I358n6_7
                            have K_I362n7_9 : I362n7 9 = 0 := (fi362n7 9 (by decide)).trans K_I358n6_9
                            have FR_h362n7 := FR_h358n6.ztr fr362n7
                            have FI_I362n7 : Fi I I362n7 (fun f => f = 40 ∨ f = 20 ∨ f = 25 ∨ f = 31 ∨ f = 33 ∨ f = 15 ∨ f = 27 ∨ f = 3) := FI_I358n6.zsub fi362n7 (fun j hj => by omega)
                            clear M_h358n6 FR_h358n6 FI_I358n6 fr362n7 fi362n7 K_I358n6_40 K_I358n6_1 K_I358n6_8 K_I358n6_7 K_I358n6_9
                            show WX _ _ _ 365 [(0, .ref m), (1, .int fl), (2, .int e), (3, .int cut), (4, .int 0), (5, .int 0), (6, .int 0), (7, .long 0), (9, .int 0)] [] (n, s, h362n7)
                            refine WX.s1 rfl rfl ?_
                            refine WX.s1 (L' := [(0, .ref m), (1, .int fl), (2, .int e), (3, .int cut), (4, .int 0), (5, .int 0), (6, .int 0), (7, .long 0), (9, .int 0), (10, .int 0)]) rfl rfl ?_
                            refine WX.s1 rfl rfl ?_
                            refine WX.s1 (L' := [(0, .ref m), (1, .int fl), (2, .int e), (3, .int cut), (4, .int 0), (5, .int 0), (6, .int 0), (7, .long 0), (9, .int 0), (10, .int 0), (11, .int 1)]) rfl rfl ?_
                            refine WX.s1 rfl rfl ?_
                            refine WX.if_ rfl (fun c_373 => absurd c_373 (by decide)) (fun c_373 => ?_)
                            clear c_373
                            refine WX.s1 rfl rfl ?_
                            refine WX.s1 rfl rfl ?_
                            refine WX.s1 rfl rfl ?_
                            refine WX.s1 rfl rfl ?_
                            refine WX.mgetK (x := 0) rfl hm M_h362n7 rfl K_I362n7_1 ?_
                            refine WX.icmp rfl (fun c_384 => ?_) (fun c_384 => absurd (ge0 hcut) c_384)
                            refine WX.s1 rfl rfl ?_
                            refine WX.mgetK (x := 0) rfl hm M_h362n7 rfl K_I362n7_1 ?_
                            refine WX.s1 (L' := [(0, .ref m), (1, .int fl), (2, .int e), (3, .int cut), (4, .int 0), (5, .int 0), (6, .int 0), (7, .long 0), (9, .int 0), (10, .int 0), (11, .int 1), (12, .int 0)]) rfl rfl ?_
                            refine WX.s1 rfl rfl ?_
                            refine WX.s1 rfl rfl ?_
                            refine WX.mgetK (x := 0) rfl hm M_h362n7 rfl K_I362n7_1 ?_
                            refine WX.icmp rfl (fun c_406 => ?_) (fun c_406 => absurd (by decide) c_406)
                            clear c_406
                            refine WX.s1 rfl rfl ?_
                            refine WX.s1 (L' := [(0, .ref m), (1, .int fl), (2, .int e), (3, .int cut), (4, .int 0), (5, .int 0), (6, .int 0), (7, .long 0), (9, .int 0), (10, .int 0), (11, .int 0), (12, .int 0)]) rfl rfl ?_
                            refine WX.s1 rfl rfl ?_
                            refine WX.s1 rfl rfl ?_
                            refine WX.s1 rfl rfl ?_
                            refine WX.s1 rfl rfl ?_
                            refine WX.if_ rfl (fun c_423 => absurd c_423 (by decide)) (fun c_423 => ?_)
                            clear c_423
                            refine WX.s1 rfl rfl ?_
                            refine WX.s1 rfl rfl ?_
                            refine WX.callC (vs := [.ref m, .int 0, .int 0, .int 1]) rfl rfl rfl (Nat.le_of_ble_eq_true rfl) (M_h362n7.rcv hm) ?_
                            refine m_block0 hm M_h362n7 (by decide) K_I362n7_40 K_I362n7_7 K_I362n7_15 (fun h431n8 I431n8 A431n8 fr431n8 M_h431n8 fi431n8 K_I431n8_40 => ?_)
                            have K_I431n8_1 : I431n8 1 = 0 := (fi431n8 1 (by decide)).trans K_I362n7_1
                            have K_I431n8_8 : I431n8 8 = 0 := (fi431n8 8 (by decide)).trans K_I362n7_8
                            have K_I431n8_7 : I431n8 7 = 0 := (fi431n8 7 (by decide)).trans K_I362n7_7
                            have K_I431n8_9 : I431n8 9 = 0 := (fi431n8 9 (by decide)).trans K_I362n7_9
                            have FR_h431n8 := FR_h362n7.ztr fr431n8
                            have FI_I431n8 : Fi I I431n8 (fun f => f = 40 ∨ f = 20 ∨ f = 25 ∨ f = 31 ∨ f = 33 ∨ f = 15 ∨ f = 27 ∨ f = 3) := FI_I362n7.zsub fi431n8 (fun j hj => by omega)
                            clear M_h362n7 FR_h362n7 FI_I362n7 fr431n8 fi431n8 K_I362n7_15 K_I362n7_40 K_I362n7_1 K_I362n7_8 K_I362n7_7 K_I362n7_9
                            show WX _ _ _ 434 [(0, .ref m), (1, .int fl), (2, .int e), (3, .int cut), (4, .int 0), (5, .int 0), (6, .int 0), (7, .long 0), (9, .int 0), (10, .int 0), (11, .int 0), (12, .int 0)] [] (n, s, h431n8)
                            refine WX.s1 rfl rfl ?_
                            refine WX.s1 (L' := [(0, .ref m), (1, .int fl), (2, .int e), (3, .int cut), (4, .int 0), (5, .int 0), (6, .int 0), (7, .long 0), (9, .int 0), (10, .int 0), (11, .int 0), (12, .int 0)]) rfl rfl ?_
                            refine WX.s1 rfl rfl ?_
                            refine WX.s1 rfl rfl ?_
                            refine WX.if_ rfl (fun c_373 => ?_) (fun c_373 => absurd (by decide) c_373)
                            clear c_373
                            refine WX.s1 rfl rfl ?_
                            refine WX.s1 rfl rfl ?_
                            refine WX.s1 rfl rfl ?_
                            refine WX.if_ rfl (fun c_444 => ?_) (fun c_444 => ?_)
                            · skip
                              refine WX.s1 rfl rfl ?_
                              have ec : pCnt fl = 9 := by
                                unfold pCnt hCnt
                                first | rw [if_neg c_3, if_pos c_444] | rw [if_neg c_3, if_neg c_444] | rw [if_pos c_3, if_pos c_99, if_pos c_444] | rw [if_pos c_3, if_pos c_99, if_neg c_444] | rw [if_pos c_3, if_neg c_99, if_pos c_444] | rw [if_pos c_3, if_neg c_99, if_neg c_444]
                              have K_I431n8_40 : I431n8 40 = nI (pCnt fl) := by rw [ec]; exact K_I431n8_40
                              refine WX.callC (vs := [.ref m]) rfl rfl rfl (Nat.le_of_ble_eq_true rfl) (M_h431n8.rcv hm) ?_
                              refine m_show hm M_h431n8 (by rw [ec]; decide) K_I431n8_40 (fun h461n9 I461n9 A461n9 fr461n9 M_h461n9 fi461n9 K_I461n9_3 => ?_)
                              have K_I461n9_40 : I461n9 40 = (nI (pCnt fl)) := (fi461n9 40 (by decide)).trans K_I431n8_40
                              have K_I461n9_1 : I461n9 1 = 0 := (fi461n9 1 (by decide)).trans K_I431n8_1
                              have K_I461n9_8 : I461n9 8 = 0 := (fi461n9 8 (by decide)).trans K_I431n8_8
                              have K_I461n9_7 : I461n9 7 = 0 := (fi461n9 7 (by decide)).trans K_I431n8_7
                              have K_I461n9_9 : I461n9 9 = 0 := (fi461n9 9 (by decide)).trans K_I431n8_9
                              have FR_h461n9 := FR_h431n8.ztr fr461n9
                              have FI_I461n9 : Fi I I461n9 (fun f => f = 40 ∨ f = 20 ∨ f = 25 ∨ f = 31 ∨ f = 33 ∨ f = 15 ∨ f = 27 ∨ f = 3) := FI_I431n8.zsub fi461n9 (fun j hj => by omega)
                              clear M_h431n8 FR_h431n8 FI_I431n8 fr461n9 fi461n9 K_I431n8_40 K_I431n8_1 K_I431n8_8 K_I431n8_7 K_I431n8_9
                              show WX _ _ _ 464 [(0, .ref m), (1, .int fl), (2, .int e), (3, .int cut), (4, .int 0), (5, .int 0), (6, .int 0), (7, .long 0), (9, .int 0), (10, .int 0), (11, .int 0), (12, .int 0)] [.int (nI (pCnt fl))] (n, s, h461n9)
                              refine WX.s1 (L' := [(0, .ref m), (1, .int fl), (2, .int e), (3, .int cut), (4, .int 0), (5, .int 0), (6, .int 0), (7, .long 0), (9, .int 0), (10, .int 0), (11, .int 0), (12, .int (nI (pCnt fl)))]) rfl rfl ?_
                              refine WX.s1 rfl rfl ?_
                              refine WX.s1 (L' := [(0, .ref m), (1, .int fl), (2, .int e), (3, .int cut), (4, .int 0), (5, .int 0), (6, .int 0), (7, .long 0), (9, .int 0), (10, .int 0), (11, .int 0), (12, .int (nI (pCnt fl))), (13, .int 0)]) rfl rfl ?_
                              have lp469 : ∀ (t i : Nat) (hL : Nat → aE) (AL : Nat → Nat → Int32), i + t = 12 → MAt hL m I461n9 AL LN → Fr h hL (inM m) → WX (lk tX12_press) (mM (d + 4)) Ψ 469 [(0, .ref m), (1, .int fl), (2, .int e), (3, .int cut), (4, .int 0), (5, .int 0), (6, .int 0), (7, .long 0), (9, .int 0), (10, .int 0), (11, .int 0), (12, .int (nI (pCnt fl))), (13, .int (nI i))] [] (n, s, hL) := by
                                clear M_h461n9 FR_h461n9
                                intro t
                                induction t with
                                | zero =>
                                  intro i hL AL ht M_hL FR_hL
                                  refine WX.s1 rfl rfl ?_
                                  refine WX.s1 rfl rfl ?_
                                  refine WX.icmp rfl (fun c_473 => ?_) (fun c_473 => absurd (nI_le (a := 12) (by omega) (by omega)) c_473)
                                  refine WX.s1 rfl rfl ?_
                                  exact WX.ret1 rfl (k1 hL hgood FR_hL)
                                | succ t ih =>
                                  intro i hL AL ht M_hL FR_hL
                                  refine WX.s1 rfl rfl ?_
                                  refine WX.s1 rfl rfl ?_
                                  refine WX.icmp rfl (fun c_473 => absurd c_473 (nI_ge (b := 12) (by omega) (by omega))) (fun c_473 => ?_)
                                  refine WX.s1 rfl rfl ?_
                                  refine WX.if_ rfl (fun c_478 => absurd c_478 (nI_pos (by rw [ec]; decide))) (fun c_478 => ?_)
                                  refine WX.s1 rfl rfl ?_
                                  refine WX.mget rfl hm M_hL rfl ?_
                                  refine WX.s1 rfl rfl ?_
                                  refine WX.s1 rfl rfl ?_
                                  refine WX.mget rfl hm M_hL rfl ?_
                                  refine WX.s1 rfl rfl ?_
                                  refine WX.mald (c := 42) rfl hm M_hL (by decide) (by decide) (by decide) (by decide) (vp_in_nI (N := 12) (by omega) (by decide)) ?_
                                  refine WX.mast (c := 43) rfl hm M_hL (by decide) (by decide) (by decide) (by decide) (vp_in_nI (N := 12) (by omega) (by decide)) (fun h494n10 A494n10 e_A494n10 M_h494n10 frh494n10 => ?_)
                                  have FR_h494n10 := FR_hL.ztr frh494n10
                                  clear M_hL FR_hL frh494n10 e_A494n10
                                  refine WX.s1 (L' := [(0, .ref m), (1, .int fl), (2, .int e), (3, .int cut), (4, .int 0), (5, .int 0), (6, .int 0), (7, .long 0), (9, .int 0), (10, .int 0), (11, .int 0), (12, .int (nI (pCnt fl))), (13, .int ((nI i) + 1))]) rfl rfl ?_
                                  refine WX.s1 rfl rfl ?_
                                  rw [nI_1 i]
                                  exact ih (i + 1) h494n10 A494n10 (by omega) M_h494n10 FR_h494n10
                              exact lp469 12 0 h461n9 A461n9 (by omega) M_h461n9 FR_h461n9
                            · skip
                              refine WX.s1 rfl rfl ?_
                              refine WX.s1 rfl rfl ?_
                              refine WX.callC (vs := [.ref m]) rfl rfl rfl (Nat.le_of_ble_eq_true rfl) (M_h431n8.rcv hm) ?_
                              refine m_sum0 hm M_h431n8 K_I431n8_1 (fun x449 => ?_)
                              show WX _ _ _ 452 [(0, .ref m), (1, .int fl), (2, .int e), (3, .int cut), (4, .int 0), (5, .int 0), (6, .int 0), (7, .long 0), (9, .int 0), (10, .int 0), (11, .int 0), (12, .int 0)] [.long x449, .ref m] (n, s, h431n8)
                              refine WX.s1 rfl rfl ?_
                              refine WX.s1 rfl rfl ?_
                              refine WX.s1 rfl rfl ?_
                              refine WX.callC (vs := [.ref m, .long _, .int 4]) rfl rfl rfl (Nat.le_of_ble_eq_true rfl) (M_h431n8.rcv hm) ?_
                              refine m_sayNum hm M_h431n8 (b := 4) (by decide) (by decide) K_I431n8_40 (fun h457n12 I457n12 A457n12 fr457n12 M_h457n12 fi457n12 K_I457n12_40 => ?_)
                              have K_I457n12_1 : I457n12 1 = 0 := (fi457n12 1 (by decide)).trans K_I431n8_1
                              have K_I457n12_8 : I457n12 8 = 0 := (fi457n12 8 (by decide)).trans K_I431n8_8
                              have K_I457n12_7 : I457n12 7 = 0 := (fi457n12 7 (by decide)).trans K_I431n8_7
                              have K_I457n12_9 : I457n12 9 = 0 := (fi457n12 9 (by decide)).trans K_I431n8_9
                              have FR_h457n12 := FR_h431n8.ztr fr457n12
                              have FI_I457n12 : Fi I I457n12 (fun f => f = 40 ∨ f = 20 ∨ f = 25 ∨ f = 31 ∨ f = 33 ∨ f = 15 ∨ f = 27 ∨ f = 3) := FI_I431n8.zsub fi457n12 (fun j hj => by omega)
                              clear M_h431n8 FR_h431n8 FI_I431n8 fr457n12 fi457n12 K_I431n8_40 K_I431n8_1 K_I431n8_8 K_I431n8_7 K_I431n8_9
                              show WX _ _ _ 460 [(0, .ref m), (1, .int fl), (2, .int e), (3, .int cut), (4, .int 0), (5, .int 0), (6, .int 0), (7, .long 0), (9, .int 0), (10, .int 0), (11, .int 0), (12, .int 0)] [] (n, s, h457n12)
                              refine WX.s1 rfl rfl ?_
                              have ec : pCnt fl = 13 := by
                                unfold pCnt hCnt
                                first | rw [if_neg c_3, if_pos c_444] | rw [if_neg c_3, if_neg c_444] | rw [if_pos c_3, if_pos c_99, if_pos c_444] | rw [if_pos c_3, if_pos c_99, if_neg c_444] | rw [if_pos c_3, if_neg c_99, if_pos c_444] | rw [if_pos c_3, if_neg c_99, if_neg c_444]
                              have K_I457n12_40 : I457n12 40 = nI (pCnt fl) := by rw [ec]; exact K_I457n12_40
                              refine WX.callC (vs := [.ref m]) rfl rfl rfl (Nat.le_of_ble_eq_true rfl) (M_h457n12.rcv hm) ?_
                              refine m_show hm M_h457n12 (by rw [ec]; decide) K_I457n12_40 (fun h461n13 I461n13 A461n13 fr461n13 M_h461n13 fi461n13 K_I461n13_3 => ?_)
                              have K_I461n13_40 : I461n13 40 = (nI (pCnt fl)) := (fi461n13 40 (by decide)).trans K_I457n12_40
                              have K_I461n13_1 : I461n13 1 = 0 := (fi461n13 1 (by decide)).trans K_I457n12_1
                              have K_I461n13_8 : I461n13 8 = 0 := (fi461n13 8 (by decide)).trans K_I457n12_8
                              have K_I461n13_7 : I461n13 7 = 0 := (fi461n13 7 (by decide)).trans K_I457n12_7
                              have K_I461n13_9 : I461n13 9 = 0 := (fi461n13 9 (by decide)).trans K_I457n12_9
                              have FR_h461n13 := FR_h457n12.ztr fr461n13
                              have FI_I461n13 : Fi I I461n13 (fun f => f = 40 ∨ f = 20 ∨ f = 25 ∨ f = 31 ∨ f = 33 ∨ f = 15 ∨ f = 27 ∨ f = 3) := FI_I457n12.zsub fi461n13 (fun j hj => by omega)
                              clear M_h457n12 FR_h457n12 FI_I457n12 fr461n13 fi461n13 K_I457n12_40 K_I457n12_1 K_I457n12_8 K_I457n12_7 K_I457n12_9
                              show WX _ _ _ 464 [(0, .ref m), (1, .int fl), (2, .int e), (3, .int cut), (4, .int 0), (5, .int 0), (6, .int 0), (7, .long 0), (9, .int 0), (10, .int 0), (11, .int 0), (12, .int 0)] [.int (nI (pCnt fl))] (n, s, h461n13)
                              refine WX.s1 (L' := [(0, .ref m), (1, .int fl), (2, .int e), (3, .int cut), (4, .int 0), (5, .int 0), (6, .int 0), (7, .long 0), (9, .int 0), (10, .int 0), (11, .int 0), (12, .int (nI (pCnt fl)))]) rfl rfl ?_
                              refine WX.s1 rfl rfl ?_
                              refine WX.s1 (L' := [(0, .ref m), (1, .int fl), (2, .int e), (3, .int cut), (4, .int 0), (5, .int 0), (6, .int 0), (7, .long 0), (9, .int 0), (10, .int 0), (11, .int 0), (12, .int (nI (pCnt fl))), (13, .int 0)]) rfl rfl ?_
                              have lp469 : ∀ (t i : Nat) (hL : Nat → aE) (AL : Nat → Nat → Int32), i + t = 12 → MAt hL m I461n13 AL LN → Fr h hL (inM m) → WX (lk tX12_press) (mM (d + 4)) Ψ 469 [(0, .ref m), (1, .int fl), (2, .int e), (3, .int cut), (4, .int 0), (5, .int 0), (6, .int 0), (7, .long 0), (9, .int 0), (10, .int 0), (11, .int 0), (12, .int (nI (pCnt fl))), (13, .int (nI i))] [] (n, s, hL) := by
                                clear M_h461n13 FR_h461n13
                                intro t
                                induction t with
                                | zero =>
                                  intro i hL AL ht M_hL FR_hL
                                  refine WX.s1 rfl rfl ?_
                                  refine WX.s1 rfl rfl ?_
                                  refine WX.icmp rfl (fun c_473 => ?_) (fun c_473 => absurd (nI_le (a := 12) (by omega) (by omega)) c_473)
                                  refine WX.s1 rfl rfl ?_
                                  exact WX.ret1 rfl (k1 hL hgood FR_hL)
                                | succ t ih =>
                                  intro i hL AL ht M_hL FR_hL
                                  refine WX.s1 rfl rfl ?_
                                  refine WX.s1 rfl rfl ?_
                                  refine WX.icmp rfl (fun c_473 => absurd c_473 (nI_ge (b := 12) (by omega) (by omega))) (fun c_473 => ?_)
                                  refine WX.s1 rfl rfl ?_
                                  refine WX.if_ rfl (fun c_478 => absurd c_478 (nI_pos (by rw [ec]; decide))) (fun c_478 => ?_)
                                  refine WX.s1 rfl rfl ?_
                                  refine WX.mget rfl hm M_hL rfl ?_
                                  refine WX.s1 rfl rfl ?_
                                  refine WX.s1 rfl rfl ?_
                                  refine WX.mget rfl hm M_hL rfl ?_
                                  refine WX.s1 rfl rfl ?_
                                  refine WX.mald (c := 42) rfl hm M_hL (by decide) (by decide) (by decide) (by decide) (vp_in_nI (N := 12) (by omega) (by decide)) ?_
                                  refine WX.mast (c := 43) rfl hm M_hL (by decide) (by decide) (by decide) (by decide) (vp_in_nI (N := 12) (by omega) (by decide)) (fun h494n14 A494n14 e_A494n14 M_h494n14 frh494n14 => ?_)
                                  have FR_h494n14 := FR_hL.ztr frh494n14
                                  clear M_hL FR_hL frh494n14 e_A494n14
                                  refine WX.s1 (L' := [(0, .ref m), (1, .int fl), (2, .int e), (3, .int cut), (4, .int 0), (5, .int 0), (6, .int 0), (7, .long 0), (9, .int 0), (10, .int 0), (11, .int 0), (12, .int (nI (pCnt fl))), (13, .int ((nI i) + 1))]) rfl rfl ?_
                                  refine WX.s1 rfl rfl ?_
                                  rw [nI_1 i]
                                  exact ih (i + 1) h494n14 A494n14 (by omega) M_h494n14 FR_h494n14
                              exact lp469 12 0 h461n13 A461n13 (by omega) M_h461n13 FR_h461n13
                          refine WX.s1 rfl rfl ?_
                          refine WX.s1 rfl rfl ?_
                          refine WX.s1 rfl rfl ?_
                          refine WX.if_ rfl (fun c_241 => ?_) (fun c_241 => ?_)
                          · skip
                            refine WX.s1 rfl rfl ?_
                            exact t249 _
                          · skip
                            refine WX.s1 rfl rfl ?_
                            refine WX.s1 rfl rfl ?_
                            exact t249 _
                        refine WX.s1 rfl rfl ?_
                        refine WX.s1 rfl rfl ?_
                        refine WX.s1 rfl rfl ?_
                        refine WX.if_ rfl (fun c_169 => ?_) (fun c_169 => ?_)
                        · skip
                          refine WX.s1 rfl rfl ?_
                          refine WX.s1 rfl rfl ?_
                          exact t210
                        · skip
                          refine WX.s1 rfl rfl ?_
                          refine WX.s1 rfl rfl ?_
                          refine WX.s1 rfl rfl ?_
                          refine WX.if_ rfl (fun c_176 => absurd c_176 (by decide)) (fun c_176 => ?_)
                          refine WX.s1 rfl rfl ?_
                          refine WX.s1 rfl rfl ?_
                          exact t210
                      · skip
                        refine WX.s1 rfl rfl ?_
                        refine WX.s1 rfl rfl ?_
                        refine WX.s1 (L' := [(0, .ref m), (1, .int fl), (2, .int e), (3, .int cut), (4, .int 0), (5, .int 1)]) rfl rfl ?_
                        refine WX.s1 rfl rfl ?_
                        refine WX.if_ rfl (fun c_111 => ?_) (fun c_111 => absurd (by decide) c_111)
                        clear c_111
                        refine WX.s1 rfl rfl ?_
                        refine WX.if_ rfl (fun c_120 => ?_) (fun c_120 => absurd (by decide) c_120)
                        clear c_120
                        refine WX.s1 rfl rfl ?_
                        refine WX.mgetK (x := 0) rfl hm M_h88n1 rfl K_I88n1_1 ?_
                        refine WX.s1 rfl rfl ?_
                        refine WX.icmp rfl (fun c_144 => absurd c_144 (by decide)) (fun c_144 => ?_)
                        clear c_144
                        refine WX.s1 rfl rfl ?_
                        refine WX.s1 rfl rfl ?_
                        refine WX.s1 (L' := [(0, .ref m), (1, .int fl), (2, .int e), (3, .int cut), (4, .int 0), (5, .int 1), (6, .int 2)]) rfl rfl ?_
                        refine WX.s1 rfl rfl ?_
                        refine WX.mgetK (x := 0) rfl hm M_h88n1 rfl K_I88n1_8 ?_
                        refine WX.s1 rfl rfl ?_
                        refine WX.s1 rfl rfl ?_
                        refine WX.s1 rfl rfl ?_
                        refine WX.lsN (L' := fun x163 => [(0, .ref m), (1, .int fl), (2, .int e), (3, .int cut), (4, .int 0), (5, .int 1), (6, .int 2), (7, .long x163)]) rfl (fun _ => rfl) (fun x163 e_x163 => ?_)
                        try dsimp only at e_x163
                        obtain rfl : x163 = 0 := e_x163.trans (by decide)
                        clear e_x163
                        have t210 : WX (lk tX12_press) (mM (d + 4)) Ψ 210 [(0, .ref m), (1, .int fl), (2, .int e), (3, .int cut), (4, .int 0), (5, .int 1), (6, .int 2), (7, .long 0)] [.int 0] (n, s, h88n1) := by
                          refine WX.s1 (L' := [(0, .ref m), (1, .int fl), (2, .int e), (3, .int cut), (4, .int 0), (5, .int 1), (6, .int 2), (7, .long 0), (9, .int 0)]) rfl rfl ?_
                          refine WX.s1 rfl rfl ?_
                          refine WX.s1 rfl rfl ?_
                          refine WX.s1 rfl rfl ?_
                          refine WX.callC (vs := [.ref m, .long 4247762216, .int 4]) rfl rfl rfl (Nat.le_of_ble_eq_true rfl) (M_h88n1.rcv hm) ?_
                          refine m_sayNum hm M_h88n1 (b := 4) (by decide) (by decide) K_I88n1_40 (fun h217n15 I217n15 A217n15 fr217n15 M_h217n15 fi217n15 K_I217n15_40 => ?_)
                          have K_I217n15_1 : I217n15 1 = 0 := (fi217n15 1 (by decide)).trans K_I88n1_1
                          have K_I217n15_8 : I217n15 8 = 0 := (fi217n15 8 (by decide)).trans K_I88n1_8
                          have K_I217n15_7 : I217n15 7 = 0 := (fi217n15 7 (by decide)).trans K_I88n1_7
                          have K_I217n15_9 : I217n15 9 = 0 := (fi217n15 9 (by decide)).trans K_I88n1_9
                          have FR_h217n15 := FR_h88n1.ztr fr217n15
                          have FI_I217n15 : Fi I I217n15 (fun f => f = 40 ∨ f = 20 ∨ f = 25 ∨ f = 31 ∨ f = 33 ∨ f = 15 ∨ f = 27 ∨ f = 3) := FI_I88n1.zsub fi217n15 (fun j hj => by omega)
                          clear M_h88n1 FR_h88n1 FI_I88n1 fr217n15 fi217n15 K_I88n1_1 K_I88n1_8 K_I88n1_7 K_I88n1_9 K_I88n1_40
                          show WX _ _ _ 220 [(0, .ref m), (1, .int fl), (2, .int e), (3, .int cut), (4, .int 0), (5, .int 1), (6, .int 2), (7, .long 0), (9, .int 0)] [] (n, s, h217n15)
                          refine WX.s1 rfl rfl ?_
                          refine WX.s1 rfl rfl ?_
                          refine WX.s1 rfl rfl ?_
                          refine WX.s1 rfl rfl ?_
                          refine WX.s1 rfl rfl ?_
                          refine WX.if_ rfl (fun c_228 => ?_) (fun c_228 => absurd (by decide) c_228)
                          clear c_228
                          refine WX.s1 rfl rfl ?_
                          refine WX.s1 rfl rfl ?_
                          have t249 : ∀ v, WX (lk tX12_press) (mM (d + 4)) Ψ 249 [(0, .ref m), (1, .int fl), (2, .int e), (3, .int cut), (4, .int 0), (5, .int 1), (6, .int 2), (7, .long 0), (9, .int 0)] [.int v, .int ((64 * 2) + 0), .ref m] (n, s, h217n15) := by
                            intro v
                            refine WX.s1 rfl rfl ?_
                            refine WX.s1 rfl rfl ?_
                            refine WX.s1 rfl rfl ?_
                            refine WX.callC (vs := [.ref m, .int ((((64 * 2) + 0) + v) + 0)]) rfl rfl rfl (Nat.le_of_ble_eq_true rfl) (M_h217n15.rcv hm) ?_
                            refine m_say hm M_h217n15 (by decide) K_I217n15_40 (fun h253n16 I253n16 A253n16 fr253n16 M_h253n16 fi253n16 K_I253n16_40 => ?_)
                            have K_I253n16_1 : I253n16 1 = 0 := (fi253n16 1 (by decide)).trans K_I217n15_1
                            have K_I253n16_8 : I253n16 8 = 0 := (fi253n16 8 (by decide)).trans K_I217n15_8
                            have K_I253n16_7 : I253n16 7 = 0 := (fi253n16 7 (by decide)).trans K_I217n15_7
                            have K_I253n16_9 : I253n16 9 = 0 := (fi253n16 9 (by decide)).trans K_I217n15_9
                            have FR_h253n16 := FR_h217n15.ztr fr253n16
                            have FI_I253n16 : Fi I I253n16 (fun f => f = 40 ∨ f = 20 ∨ f = 25 ∨ f = 31 ∨ f = 33 ∨ f = 15 ∨ f = 27 ∨ f = 3) := FI_I217n15.zsub fi253n16 (fun j hj => by omega)
                            clear M_h217n15 FR_h217n15 FI_I217n15 fr253n16 fi253n16 K_I217n15_40 K_I217n15_1 K_I217n15_8 K_I217n15_7 K_I217n15_9
                            show WX _ _ _ 256 [(0, .ref m), (1, .int fl), (2, .int e), (3, .int cut), (4, .int 0), (5, .int 1), (6, .int 2), (7, .long 0), (9, .int 0)] [] (n, s, h253n16)
                            refine WX.s1 rfl rfl ?_
                            refine WX.if_ rfl (fun c_258 => absurd c_258 (by decide)) (fun c_258 => ?_)
                            clear c_258
                            refine WX.s1 rfl rfl ?_
                            refine WX.s1 rfl rfl ?_
                            refine WX.s1 rfl rfl ?_
                            refine WX.s1 rfl rfl ?_
                            refine WX.callC (vs := [.ref m, .int (8 * e)]) rfl rfl rfl (Nat.le_of_ble_eq_true rfl) (M_h253n16.rcv hm) ?_
                            refine m_say hm M_h253n16 (by decide) K_I253n16_40 (fun h266n17 I266n17 A266n17 fr266n17 M_h266n17 fi266n17 K_I266n17_40 => ?_)
                            have K_I266n17_1 : I266n17 1 = 0 := (fi266n17 1 (by decide)).trans K_I253n16_1
                            have K_I266n17_8 : I266n17 8 = 0 := (fi266n17 8 (by decide)).trans K_I253n16_8
                            have K_I266n17_7 : I266n17 7 = 0 := (fi266n17 7 (by decide)).trans K_I253n16_7
                            have K_I266n17_9 : I266n17 9 = 0 := (fi266n17 9 (by decide)).trans K_I253n16_9
                            have FR_h266n17 := FR_h253n16.ztr fr266n17
                            have FI_I266n17 : Fi I I266n17 (fun f => f = 40 ∨ f = 20 ∨ f = 25 ∨ f = 31 ∨ f = 33 ∨ f = 15 ∨ f = 27 ∨ f = 3) := FI_I253n16.zsub fi266n17 (fun j hj => by omega)
                            clear M_h253n16 FR_h253n16 FI_I253n16 fr266n17 fi266n17 K_I253n16_40 K_I253n16_1 K_I253n16_8 K_I253n16_7 K_I253n16_9
                            show WX _ _ _ 269 [(0, .ref m), (1, .int fl), (2, .int e), (3, .int cut), (4, .int 0), (5, .int 1), (6, .int 2), (7, .long 0), (9, .int 0)] [] (n, s, h266n17)
                            refine WX.s1 rfl rfl ?_
                            refine WX.s1 rfl rfl ?_
                            refine WX.s1 rfl rfl ?_
                            refine WX.s1 rfl rfl ?_
                            refine WX.icmp rfl (fun c_275 => ?_) (fun c_275 => absurd (by decide) c_275)
                            clear c_275
                            refine WX.s1 rfl rfl ?_
                            refine WX.callC (vs := [.ref m, .long 0, .int 0]) rfl rfl rfl (Nat.le_of_ble_eq_true rfl) (M_h266n17.rcv hm) ?_
                            refine m_sayNum hm M_h266n17 (b := 0) (by decide) (by decide) K_I266n17_40 (fun h284n18 I284n18 A284n18 fr284n18 M_h284n18 fi284n18 K_I284n18_40 => ?_)
                            have K_I284n18_1 : I284n18 1 = 0 := (fi284n18 1 (by decide)).trans K_I266n17_1
                            have K_I284n18_8 : I284n18 8 = 0 := (fi284n18 8 (by decide)).trans K_I266n17_8
                            have K_I284n18_7 : I284n18 7 = 0 := (fi284n18 7 (by decide)).trans K_I266n17_7
                            have K_I284n18_9 : I284n18 9 = 0 := (fi284n18 9 (by decide)).trans K_I266n17_9
                            have FR_h284n18 := FR_h266n17.ztr fr284n18
                            have FI_I284n18 : Fi I I284n18 (fun f => f = 40 ∨ f = 20 ∨ f = 25 ∨ f = 31 ∨ f = 33 ∨ f = 15 ∨ f = 27 ∨ f = 3) := FI_I266n17.zsub fi284n18 (fun j hj => by omega)
                            clear M_h266n17 FR_h266n17 FI_I266n17 fr284n18 fi284n18 K_I266n17_40 K_I266n17_1 K_I266n17_8 K_I266n17_7 K_I266n17_9
                            show WX _ _ _ 287 [(0, .ref m), (1, .int fl), (2, .int e), (3, .int cut), (4, .int 0), (5, .int 1), (6, .int 2), (7, .long 0), (9, .int 0)] [] (n, s, h284n18)
                            refine WX.s1 rfl rfl ?_
                            refine WX.if_ rfl (fun c_289 => absurd c_289 (by decide)) (fun c_289 => ?_)
                            clear c_289
                            refine WX.s1 rfl rfl ?_
                            refine WX.s1 rfl rfl ?_
                            refine WX.s1 rfl rfl ?_
                            refine WX.icmp rfl (fun c_296 => ?_) (fun c_296 => absurd (by decide) c_296)
                            clear c_296
                            refine WX.s1 rfl rfl ?_
                            refine WX.mgetK (x := 0) rfl hm M_h284n18 rfl K_I284n18_1 ?_
                            refine WX.s1 rfl rfl ?_
                            refine WX.s1 rfl rfl ?_
                            refine WX.if_ rfl (fun c_318 => ?_) (fun c_318 => absurd (by decide) c_318)
                            clear c_318
                            refine WX.s1 rfl rfl ?_
                            refine WX.s1 rfl rfl ?_
                            refine WX.icmp rfl (fun c_328 => ?_) (fun c_328 => absurd (by decide) c_328)
                            clear c_328
                            refine WX.s1 rfl rfl ?_
                            refine WX.callC (vs := [.ref m, .long _, .int 4]) rfl rfl rfl (Nat.le_of_ble_eq_true rfl) (M_h284n18.rcv hm) ?_
                            refine m_sayNum hm M_h284n18 (b := 4) (by decide) (by decide) K_I284n18_40 (fun h336n19 I336n19 A336n19 fr336n19 M_h336n19 fi336n19 K_I336n19_40 => ?_)
                            have K_I336n19_1 : I336n19 1 = 0 := (fi336n19 1 (by decide)).trans K_I284n18_1
                            have K_I336n19_8 : I336n19 8 = 0 := (fi336n19 8 (by decide)).trans K_I284n18_8
                            have K_I336n19_7 : I336n19 7 = 0 := (fi336n19 7 (by decide)).trans K_I284n18_7
                            have K_I336n19_9 : I336n19 9 = 0 := (fi336n19 9 (by decide)).trans K_I284n18_9
                            have FR_h336n19 := FR_h284n18.ztr fr336n19
                            have FI_I336n19 : Fi I I336n19 (fun f => f = 40 ∨ f = 20 ∨ f = 25 ∨ f = 31 ∨ f = 33 ∨ f = 15 ∨ f = 27 ∨ f = 3) := FI_I284n18.zsub fi336n19 (fun j hj => by omega)
                            clear M_h284n18 FR_h284n18 FI_I284n18 fr336n19 fi336n19 K_I284n18_40 K_I284n18_1 K_I284n18_8 K_I284n18_7 K_I284n18_9
                            show WX _ _ _ 339 [(0, .ref m), (1, .int fl), (2, .int e), (3, .int cut), (4, .int 0), (5, .int 1), (6, .int 2), (7, .long 0), (9, .int 0)] [] (n, s, h336n19)
                            refine WX.s1 rfl rfl ?_
                            refine WX.s1 rfl rfl ?_
                            refine WX.if_ rfl (fun c_342 => ?_) (fun c_342 => absurd (by decide) c_342)
                            clear c_342
                            refine WX.s1 rfl rfl ?_
                            refine WX.s1 rfl rfl ?_
                            refine WX.s1 rfl rfl ?_
                            refine WX.s1 rfl rfl ?_
                            refine WX.s1 rfl rfl ?_
                            refine WX.mput rfl hm M_h336n19 (rfl) (by decide) (fun _ => rfl) (fun h358n20 I358n20 e_I358n20 M_h358n20 frh358n20 => ?_)
                            have FR_h358n20 := FR_h336n19.ztr frh358n20
                            have FI_I358n20 : Fi I I358n20 (fun f => f = 40 ∨ f = 20 ∨ f = 25 ∨ f = 31 ∨ f = 33 ∨ f = 15 ∨ f = 27 ∨ f = 3) := FI_I336n19.zup e_I358n20 (by first | exact rfl | decide | omega)
                            have K_I358n20_40 : I358n20 40 = (nI 10) := by rw [e_I358n20]; exact (pk_un (by decide)).trans K_I336n19_40
                            have K_I358n20_1 : I358n20 1 = 0 := by rw [e_I358n20]; exact (pk_un (by decide)).trans K_I336n19_1
                            have K_I358n20_8 : I358n20 8 = 0 := by rw [e_I358n20]; exact (pk_un (by decide)).trans K_I336n19_8
                            have K_I358n20_7 : I358n20 7 = 0 := by rw [e_I358n20]; exact (pk_un (by decide)).trans K_I336n19_7
                            have K_I358n20_9 : I358n20 9 = 0 := by rw [e_I358n20]; exact (pk_un (by decide)).trans K_I336n19_9
                            clear M_h336n19 FR_h336n19 FI_I336n19 e_I358n20 frh358n20 K_I336n19_40 K_I336n19_1 K_I336n19_8 K_I336n19_7 K_I336n19_9
                            refine WX.s1 rfl rfl ?_
                            refine WX.callC (vs := [.ref m]) rfl rfl rfl (Nat.le_of_ble_eq_true rfl) (M_h358n20.rcv hm) ?_
                            refine m_begf hm M_h358n20 K_I358n20_9 (fun h362n21 I362n21 A362n21 fr362n21 M_h362n21 fi362n21 K_I362n21_15 => ?_)
                            have K_I362n21_40 : I362n21 40 = (nI 10) := (fi362n21 40 (by decide)).trans K_I358n20_40
                            have K_I362n21_1 : I362n21 1 = 0 := (fi362n21 1 (by decide)).trans K_I358n20_1
                            have K_I362n21_8 : I362n21 8 = 0 := (fi362n21 8 (by decide)).trans K_I358n20_8
                            have K_I362n21_7 : I362n21 7 = 0 := (fi362n21 7 (by decide)).trans K_I358n20_7
                            have K_I362n21_9 : I362n21 9 = 0 := (fi362n21 9 (by decide)).trans K_I358n20_9
                            have FR_h362n21 := FR_h358n20.ztr fr362n21
                            have FI_I362n21 : Fi I I362n21 (fun f => f = 40 ∨ f = 20 ∨ f = 25 ∨ f = 31 ∨ f = 33 ∨ f = 15 ∨ f = 27 ∨ f = 3) := FI_I358n20.zsub fi362n21 (fun j hj => by omega)
                            clear M_h358n20 FR_h358n20 FI_I358n20 fr362n21 fi362n21 K_I358n20_40 K_I358n20_1 K_I358n20_8 K_I358n20_7 K_I358n20_9
                            show WX _ _ _ 365 [(0, .ref m), (1, .int fl), (2, .int e), (3, .int cut), (4, .int 0), (5, .int 1), (6, .int 2), (7, .long 0), (9, .int 0)] [] (n, s, h362n21)
                            refine WX.s1 rfl rfl ?_
                            refine WX.s1 (L' := [(0, .ref m), (1, .int fl), (2, .int e), (3, .int cut), (4, .int 0), (5, .int 1), (6, .int 2), (7, .long 0), (9, .int 0), (10, .int 0)]) rfl rfl ?_
                            refine WX.s1 rfl rfl ?_
                            refine WX.s1 (L' := [(0, .ref m), (1, .int fl), (2, .int e), (3, .int cut), (4, .int 0), (5, .int 1), (6, .int 2), (7, .long 0), (9, .int 0), (10, .int 0), (11, .int 1)]) rfl rfl ?_
                            refine WX.s1 rfl rfl ?_
                            refine WX.if_ rfl (fun c_373 => absurd c_373 (by decide)) (fun c_373 => ?_)
                            clear c_373
                            refine WX.s1 rfl rfl ?_
                            refine WX.s1 rfl rfl ?_
                            refine WX.s1 rfl rfl ?_
                            refine WX.s1 rfl rfl ?_
                            refine WX.mgetK (x := 0) rfl hm M_h362n21 rfl K_I362n21_1 ?_
                            refine WX.icmp rfl (fun c_384 => ?_) (fun c_384 => absurd (ge0 hcut) c_384)
                            refine WX.s1 rfl rfl ?_
                            refine WX.mgetK (x := 0) rfl hm M_h362n21 rfl K_I362n21_1 ?_
                            refine WX.s1 (L' := [(0, .ref m), (1, .int fl), (2, .int e), (3, .int cut), (4, .int 0), (5, .int 1), (6, .int 2), (7, .long 0), (9, .int 0), (10, .int 0), (11, .int 1), (12, .int 0)]) rfl rfl ?_
                            refine WX.s1 rfl rfl ?_
                            refine WX.s1 rfl rfl ?_
                            refine WX.mgetK (x := 0) rfl hm M_h362n21 rfl K_I362n21_1 ?_
                            refine WX.icmp rfl (fun c_406 => ?_) (fun c_406 => absurd (by decide) c_406)
                            clear c_406
                            refine WX.s1 rfl rfl ?_
                            refine WX.s1 (L' := [(0, .ref m), (1, .int fl), (2, .int e), (3, .int cut), (4, .int 0), (5, .int 1), (6, .int 2), (7, .long 0), (9, .int 0), (10, .int 0), (11, .int 0), (12, .int 0)]) rfl rfl ?_
                            refine WX.s1 rfl rfl ?_
                            refine WX.s1 rfl rfl ?_
                            refine WX.s1 rfl rfl ?_
                            refine WX.s1 rfl rfl ?_
                            refine WX.if_ rfl (fun c_423 => absurd c_423 (by decide)) (fun c_423 => ?_)
                            clear c_423
                            refine WX.s1 rfl rfl ?_
                            refine WX.s1 rfl rfl ?_
                            refine WX.callC (vs := [.ref m, .int 0, .int 0, .int 1]) rfl rfl rfl (Nat.le_of_ble_eq_true rfl) (M_h362n21.rcv hm) ?_
                            refine m_block0 hm M_h362n21 (by decide) K_I362n21_40 K_I362n21_7 K_I362n21_15 (fun h431n22 I431n22 A431n22 fr431n22 M_h431n22 fi431n22 K_I431n22_40 => ?_)
                            have K_I431n22_1 : I431n22 1 = 0 := (fi431n22 1 (by decide)).trans K_I362n21_1
                            have K_I431n22_8 : I431n22 8 = 0 := (fi431n22 8 (by decide)).trans K_I362n21_8
                            have K_I431n22_7 : I431n22 7 = 0 := (fi431n22 7 (by decide)).trans K_I362n21_7
                            have K_I431n22_9 : I431n22 9 = 0 := (fi431n22 9 (by decide)).trans K_I362n21_9
                            have FR_h431n22 := FR_h362n21.ztr fr431n22
                            have FI_I431n22 : Fi I I431n22 (fun f => f = 40 ∨ f = 20 ∨ f = 25 ∨ f = 31 ∨ f = 33 ∨ f = 15 ∨ f = 27 ∨ f = 3) := FI_I362n21.zsub fi431n22 (fun j hj => by omega)
                            clear M_h362n21 FR_h362n21 FI_I362n21 fr431n22 fi431n22 K_I362n21_15 K_I362n21_40 K_I362n21_1 K_I362n21_8 K_I362n21_7 K_I362n21_9
                            show WX _ _ _ 434 [(0, .ref m), (1, .int fl), (2, .int e), (3, .int cut), (4, .int 0), (5, .int 1), (6, .int 2), (7, .long 0), (9, .int 0), (10, .int 0), (11, .int 0), (12, .int 0)] [] (n, s, h431n22)
                            refine WX.s1 rfl rfl ?_
                            refine WX.s1 (L' := [(0, .ref m), (1, .int fl), (2, .int e), (3, .int cut), (4, .int 0), (5, .int 1), (6, .int 2), (7, .long 0), (9, .int 0), (10, .int 0), (11, .int 0), (12, .int 0)]) rfl rfl ?_
                            refine WX.s1 rfl rfl ?_
                            refine WX.s1 rfl rfl ?_
                            refine WX.if_ rfl (fun c_373 => ?_) (fun c_373 => absurd (by decide) c_373)
                            clear c_373
                            refine WX.s1 rfl rfl ?_
                            refine WX.s1 rfl rfl ?_
                            refine WX.s1 rfl rfl ?_
                            refine WX.if_ rfl (fun c_444 => ?_) (fun c_444 => ?_)
                            · skip
                              refine WX.s1 rfl rfl ?_
                              have ec : pCnt fl = 13 := by
                                unfold pCnt hCnt
                                first | rw [if_neg c_3, if_pos c_444] | rw [if_neg c_3, if_neg c_444] | rw [if_pos c_3, if_pos c_99, if_pos c_444] | rw [if_pos c_3, if_pos c_99, if_neg c_444] | rw [if_pos c_3, if_neg c_99, if_pos c_444] | rw [if_pos c_3, if_neg c_99, if_neg c_444]
                              have K_I431n22_40 : I431n22 40 = nI (pCnt fl) := by rw [ec]; exact K_I431n22_40
                              refine WX.callC (vs := [.ref m]) rfl rfl rfl (Nat.le_of_ble_eq_true rfl) (M_h431n22.rcv hm) ?_
                              refine m_show hm M_h431n22 (by rw [ec]; decide) K_I431n22_40 (fun h461n23 I461n23 A461n23 fr461n23 M_h461n23 fi461n23 K_I461n23_3 => ?_)
                              have K_I461n23_40 : I461n23 40 = (nI (pCnt fl)) := (fi461n23 40 (by decide)).trans K_I431n22_40
                              have K_I461n23_1 : I461n23 1 = 0 := (fi461n23 1 (by decide)).trans K_I431n22_1
                              have K_I461n23_8 : I461n23 8 = 0 := (fi461n23 8 (by decide)).trans K_I431n22_8
                              have K_I461n23_7 : I461n23 7 = 0 := (fi461n23 7 (by decide)).trans K_I431n22_7
                              have K_I461n23_9 : I461n23 9 = 0 := (fi461n23 9 (by decide)).trans K_I431n22_9
                              have FR_h461n23 := FR_h431n22.ztr fr461n23
                              have FI_I461n23 : Fi I I461n23 (fun f => f = 40 ∨ f = 20 ∨ f = 25 ∨ f = 31 ∨ f = 33 ∨ f = 15 ∨ f = 27 ∨ f = 3) := FI_I431n22.zsub fi461n23 (fun j hj => by omega)
                              clear M_h431n22 FR_h431n22 FI_I431n22 fr461n23 fi461n23 K_I431n22_40 K_I431n22_1 K_I431n22_8 K_I431n22_7 K_I431n22_9
                              show WX _ _ _ 464 [(0, .ref m), (1, .int fl), (2, .int e), (3, .int cut), (4, .int 0), (5, .int 1), (6, .int 2), (7, .long 0), (9, .int 0), (10, .int 0), (11, .int 0), (12, .int 0)] [.int (nI (pCnt fl))] (n, s, h461n23)
                              refine WX.s1 (L' := [(0, .ref m), (1, .int fl), (2, .int e), (3, .int cut), (4, .int 0), (5, .int 1), (6, .int 2), (7, .long 0), (9, .int 0), (10, .int 0), (11, .int 0), (12, .int (nI (pCnt fl)))]) rfl rfl ?_
                              refine WX.s1 rfl rfl ?_
                              refine WX.s1 (L' := [(0, .ref m), (1, .int fl), (2, .int e), (3, .int cut), (4, .int 0), (5, .int 1), (6, .int 2), (7, .long 0), (9, .int 0), (10, .int 0), (11, .int 0), (12, .int (nI (pCnt fl))), (13, .int 0)]) rfl rfl ?_
                              have lp469 : ∀ (t i : Nat) (hL : Nat → aE) (AL : Nat → Nat → Int32), i + t = 12 → MAt hL m I461n23 AL LN → Fr h hL (inM m) → WX (lk tX12_press) (mM (d + 4)) Ψ 469 [(0, .ref m), (1, .int fl), (2, .int e), (3, .int cut), (4, .int 0), (5, .int 1), (6, .int 2), (7, .long 0), (9, .int 0), (10, .int 0), (11, .int 0), (12, .int (nI (pCnt fl))), (13, .int (nI i))] [] (n, s, hL) := by
                                clear M_h461n23 FR_h461n23
                                intro t
                                induction t with
                                | zero =>
                                  intro i hL AL ht M_hL FR_hL
                                  refine WX.s1 rfl rfl ?_
                                  refine WX.s1 rfl rfl ?_
                                  refine WX.icmp rfl (fun c_473 => ?_) (fun c_473 => absurd (nI_le (a := 12) (by omega) (by omega)) c_473)
                                  refine WX.s1 rfl rfl ?_
                                  exact WX.ret1 rfl (k1 hL hgood FR_hL)
                                | succ t ih =>
                                  intro i hL AL ht M_hL FR_hL
                                  refine WX.s1 rfl rfl ?_
                                  refine WX.s1 rfl rfl ?_
                                  refine WX.icmp rfl (fun c_473 => absurd c_473 (nI_ge (b := 12) (by omega) (by omega))) (fun c_473 => ?_)
                                  refine WX.s1 rfl rfl ?_
                                  refine WX.if_ rfl (fun c_478 => absurd c_478 (nI_pos (by rw [ec]; decide))) (fun c_478 => ?_)
                                  refine WX.s1 rfl rfl ?_
                                  refine WX.mget rfl hm M_hL rfl ?_
                                  refine WX.s1 rfl rfl ?_
                                  refine WX.s1 rfl rfl ?_
                                  refine WX.mget rfl hm M_hL rfl ?_
                                  refine WX.s1 rfl rfl ?_
                                  refine WX.mald (c := 42) rfl hm M_hL (by decide) (by decide) (by decide) (by decide) (vp_in_nI (N := 12) (by omega) (by decide)) ?_
                                  refine WX.mast (c := 43) rfl hm M_hL (by decide) (by decide) (by decide) (by decide) (vp_in_nI (N := 12) (by omega) (by decide)) (fun h494n24 A494n24 e_A494n24 M_h494n24 frh494n24 => ?_)
                                  have FR_h494n24 := FR_hL.ztr frh494n24
                                  clear M_hL FR_hL frh494n24 e_A494n24
                                  refine WX.s1 (L' := [(0, .ref m), (1, .int fl), (2, .int e), (3, .int cut), (4, .int 0), (5, .int 1), (6, .int 2), (7, .long 0), (9, .int 0), (10, .int 0), (11, .int 0), (12, .int (nI (pCnt fl))), (13, .int ((nI i) + 1))]) rfl rfl ?_
                                  refine WX.s1 rfl rfl ?_
                                  rw [nI_1 i]
                                  exact ih (i + 1) h494n24 A494n24 (by omega) M_h494n24 FR_h494n24
                              exact lp469 12 0 h461n23 A461n23 (by omega) M_h461n23 FR_h461n23
                            · skip
                              refine WX.s1 rfl rfl ?_
                              refine WX.s1 rfl rfl ?_
                              refine WX.callC (vs := [.ref m]) rfl rfl rfl (Nat.le_of_ble_eq_true rfl) (M_h431n22.rcv hm) ?_
                              refine m_sum0 hm M_h431n22 K_I431n22_1 (fun x449 => ?_)
                              show WX _ _ _ 452 [(0, .ref m), (1, .int fl), (2, .int e), (3, .int cut), (4, .int 0), (5, .int 1), (6, .int 2), (7, .long 0), (9, .int 0), (10, .int 0), (11, .int 0), (12, .int 0)] [.long x449, .ref m] (n, s, h431n22)
                              refine WX.s1 rfl rfl ?_
                              refine WX.s1 rfl rfl ?_
                              refine WX.s1 rfl rfl ?_
                              refine WX.callC (vs := [.ref m, .long _, .int 4]) rfl rfl rfl (Nat.le_of_ble_eq_true rfl) (M_h431n22.rcv hm) ?_
                              refine m_sayNum hm M_h431n22 (b := 4) (by decide) (by decide) K_I431n22_40 (fun h457n26 I457n26 A457n26 fr457n26 M_h457n26 fi457n26 K_I457n26_40 => ?_)
                              have K_I457n26_1 : I457n26 1 = 0 := (fi457n26 1 (by decide)).trans K_I431n22_1
                              have K_I457n26_8 : I457n26 8 = 0 := (fi457n26 8 (by decide)).trans K_I431n22_8
                              have K_I457n26_7 : I457n26 7 = 0 := (fi457n26 7 (by decide)).trans K_I431n22_7
                              have K_I457n26_9 : I457n26 9 = 0 := (fi457n26 9 (by decide)).trans K_I431n22_9
                              have FR_h457n26 := FR_h431n22.ztr fr457n26
                              have FI_I457n26 : Fi I I457n26 (fun f => f = 40 ∨ f = 20 ∨ f = 25 ∨ f = 31 ∨ f = 33 ∨ f = 15 ∨ f = 27 ∨ f = 3) := FI_I431n22.zsub fi457n26 (fun j hj => by omega)
                              clear M_h431n22 FR_h431n22 FI_I431n22 fr457n26 fi457n26 K_I431n22_40 K_I431n22_1 K_I431n22_8 K_I431n22_7 K_I431n22_9
                              show WX _ _ _ 460 [(0, .ref m), (1, .int fl), (2, .int e), (3, .int cut), (4, .int 0), (5, .int 1), (6, .int 2), (7, .long 0), (9, .int 0), (10, .int 0), (11, .int 0), (12, .int 0)] [] (n, s, h457n26)
                              refine WX.s1 rfl rfl ?_
                              have ec : pCnt fl = 17 := by
                                unfold pCnt hCnt
                                first | rw [if_neg c_3, if_pos c_444] | rw [if_neg c_3, if_neg c_444] | rw [if_pos c_3, if_pos c_99, if_pos c_444] | rw [if_pos c_3, if_pos c_99, if_neg c_444] | rw [if_pos c_3, if_neg c_99, if_pos c_444] | rw [if_pos c_3, if_neg c_99, if_neg c_444]
                              have K_I457n26_40 : I457n26 40 = nI (pCnt fl) := by rw [ec]; exact K_I457n26_40
                              refine WX.callC (vs := [.ref m]) rfl rfl rfl (Nat.le_of_ble_eq_true rfl) (M_h457n26.rcv hm) ?_
                              refine m_show hm M_h457n26 (by rw [ec]; decide) K_I457n26_40 (fun h461n27 I461n27 A461n27 fr461n27 M_h461n27 fi461n27 K_I461n27_3 => ?_)
                              have K_I461n27_40 : I461n27 40 = (nI (pCnt fl)) := (fi461n27 40 (by decide)).trans K_I457n26_40
                              have K_I461n27_1 : I461n27 1 = 0 := (fi461n27 1 (by decide)).trans K_I457n26_1
                              have K_I461n27_8 : I461n27 8 = 0 := (fi461n27 8 (by decide)).trans K_I457n26_8
                              have K_I461n27_7 : I461n27 7 = 0 := (fi461n27 7 (by decide)).trans K_I457n26_7
                              have K_I461n27_9 : I461n27 9 = 0 := (fi461n27 9 (by decide)).trans K_I457n26_9
                              have FR_h461n27 := FR_h457n26.ztr fr461n27
                              have FI_I461n27 : Fi I I461n27 (fun f => f = 40 ∨ f = 20 ∨ f = 25 ∨ f = 31 ∨ f = 33 ∨ f = 15 ∨ f = 27 ∨ f = 3) := FI_I457n26.zsub fi461n27 (fun j hj => by omega)
                              clear M_h457n26 FR_h457n26 FI_I457n26 fr461n27 fi461n27 K_I457n26_40 K_I457n26_1 K_I457n26_8 K_I457n26_7 K_I457n26_9
                              show WX _ _ _ 464 [(0, .ref m), (1, .int fl), (2, .int e), (3, .int cut), (4, .int 0), (5, .int 1), (6, .int 2), (7, .long 0), (9, .int 0), (10, .int 0), (11, .int 0), (12, .int 0)] [.int (nI (pCnt fl))] (n, s, h461n27)
                              refine WX.s1 (L' := [(0, .ref m), (1, .int fl), (2, .int e), (3, .int cut), (4, .int 0), (5, .int 1), (6, .int 2), (7, .long 0), (9, .int 0), (10, .int 0), (11, .int 0), (12, .int (nI (pCnt fl)))]) rfl rfl ?_
                              refine WX.s1 rfl rfl ?_
                              refine WX.s1 (L' := [(0, .ref m), (1, .int fl), (2, .int e), (3, .int cut), (4, .int 0), (5, .int 1), (6, .int 2), (7, .long 0), (9, .int 0), (10, .int 0), (11, .int 0), (12, .int (nI (pCnt fl))), (13, .int 0)]) rfl rfl ?_
                              have lp469 : ∀ (t i : Nat) (hL : Nat → aE) (AL : Nat → Nat → Int32), i + t = 12 → MAt hL m I461n27 AL LN → Fr h hL (inM m) → WX (lk tX12_press) (mM (d + 4)) Ψ 469 [(0, .ref m), (1, .int fl), (2, .int e), (3, .int cut), (4, .int 0), (5, .int 1), (6, .int 2), (7, .long 0), (9, .int 0), (10, .int 0), (11, .int 0), (12, .int (nI (pCnt fl))), (13, .int (nI i))] [] (n, s, hL) := by
                                clear M_h461n27 FR_h461n27
                                intro t
                                induction t with
                                | zero =>
                                  intro i hL AL ht M_hL FR_hL
                                  refine WX.s1 rfl rfl ?_
                                  refine WX.s1 rfl rfl ?_
                                  refine WX.icmp rfl (fun c_473 => ?_) (fun c_473 => absurd (nI_le (a := 12) (by omega) (by omega)) c_473)
                                  refine WX.s1 rfl rfl ?_
                                  exact WX.ret1 rfl (k1 hL hgood FR_hL)
                                | succ t ih =>
                                  intro i hL AL ht M_hL FR_hL
                                  refine WX.s1 rfl rfl ?_
                                  refine WX.s1 rfl rfl ?_
                                  refine WX.icmp rfl (fun c_473 => absurd c_473 (nI_ge (b := 12) (by omega) (by omega))) (fun c_473 => ?_)
                                  refine WX.s1 rfl rfl ?_
                                  refine WX.if_ rfl (fun c_478 => absurd c_478 (nI_pos (by rw [ec]; decide))) (fun c_478 => ?_)
                                  refine WX.s1 rfl rfl ?_
                                  refine WX.mget rfl hm M_hL rfl ?_
                                  refine WX.s1 rfl rfl ?_
                                  refine WX.s1 rfl rfl ?_
                                  refine WX.mget rfl hm M_hL rfl ?_
                                  refine WX.s1 rfl rfl ?_
                                  refine WX.mald (c := 42) rfl hm M_hL (by decide) (by decide) (by decide) (by decide) (vp_in_nI (N := 12) (by omega) (by decide)) ?_
                                  refine WX.mast (c := 43) rfl hm M_hL (by decide) (by decide) (by decide) (by decide) (vp_in_nI (N := 12) (by omega) (by decide)) (fun h494n28 A494n28 e_A494n28 M_h494n28 frh494n28 => ?_)
                                  have FR_h494n28 := FR_hL.ztr frh494n28
                                  clear M_hL FR_hL frh494n28 e_A494n28
                                  refine WX.s1 (L' := [(0, .ref m), (1, .int fl), (2, .int e), (3, .int cut), (4, .int 0), (5, .int 1), (6, .int 2), (7, .long 0), (9, .int 0), (10, .int 0), (11, .int 0), (12, .int (nI (pCnt fl))), (13, .int ((nI i) + 1))]) rfl rfl ?_
                                  refine WX.s1 rfl rfl ?_
                                  rw [nI_1 i]
                                  exact ih (i + 1) h494n28 A494n28 (by omega) M_h494n28 FR_h494n28
                              exact lp469 12 0 h461n27 A461n27 (by omega) M_h461n27 FR_h461n27
                          refine WX.s1 rfl rfl ?_
                          refine WX.s1 rfl rfl ?_
                          refine WX.s1 rfl rfl ?_
                          refine WX.if_ rfl (fun c_241 => ?_) (fun c_241 => ?_)
                          · skip
                            refine WX.s1 rfl rfl ?_
                            exact t249 _
                          · skip
                            refine WX.s1 rfl rfl ?_
                            refine WX.s1 rfl rfl ?_
                            exact t249 _
                        refine WX.s1 rfl rfl ?_
                        refine WX.s1 rfl rfl ?_
                        refine WX.s1 rfl rfl ?_
                        refine WX.if_ rfl (fun c_169 => ?_) (fun c_169 => ?_)
                        · skip
                          refine WX.s1 rfl rfl ?_
                          refine WX.s1 rfl rfl ?_
                          exact t210
                        · skip
                          refine WX.s1 rfl rfl ?_
                          refine WX.s1 rfl rfl ?_
                          refine WX.s1 rfl rfl ?_
                          refine WX.if_ rfl (fun c_176 => absurd c_176 (by decide)) (fun c_176 => ?_)
                          refine WX.s1 rfl rfl ?_
                          refine WX.s1 rfl rfl ?_
                          exact t210
                    | succ t ih =>
                      intro i hL AL ht M_hL FR_hL
                      refine WX.s1 rfl rfl ?_
                      refine WX.s1 rfl rfl ?_
                      refine WX.icmp rfl (fun c_69 => absurd c_69 (nI_ge (b := 12) (by omega) (by omega))) (fun c_69 => ?_)
                      refine WX.s1 rfl rfl ?_
                      refine WX.mget rfl hm M_hL rfl ?_
                      refine WX.s1 rfl rfl ?_
                      refine WX.s1 rfl rfl ?_
                      refine WX.mast (c := 42) rfl hm M_hL (by decide) (by decide) (by decide) (by decide) (vp_in_nI (N := 12) (by omega) (by decide)) (fun h79n29 A79n29 e_A79n29 M_h79n29 frh79n29 => ?_)
                      have FR_h79n29 := FR_hL.ztr frh79n29
                      clear M_hL FR_hL frh79n29 e_A79n29
                      refine WX.s1 (L' := [(0, .ref m), (1, .int fl), (2, .int e), (3, .int cut), (4, .int 0), (5, .int ((nI i) + 1))]) rfl rfl ?_
                      refine WX.s1 rfl rfl ?_
                      rw [nI_1 i]
                      exact ih (i + 1) h79n29 A79n29 (by omega) M_h79n29 FR_h79n29
                  exact lp65 12 0 h AR (by omega) M_h FR_h
                · skip
                  refine WX.s1 rfl rfl ?_
                  refine WX.ret1 rfl (k0 ?_)
                  unfold pBad
                  first
                    | exact Or.inl c_14
                    | exact Or.inr (Or.inl c_20)
                    | exact Or.inr (Or.inr (Or.inl c_24))
                    | exact Or.inr (Or.inr (Or.inr (Or.inl c_30)))
                    | exact Or.inr (Or.inr (Or.inr (Or.inr (Or.inl c_35))))
                    | exact Or.inr (Or.inr (Or.inr (Or.inr (Or.inr (Or.inl c_42)))))
                    | exact Or.inr (Or.inr (Or.inr (Or.inr (Or.inr (Or.inr ⟨c_3, Int32.not_le.mp c_57⟩)))))
  · skip
    refine WX.s1 rfl rfl ?_
    refine WX.s1 rfl rfl ?_
    refine WX.s1 (L' := [(0, .ref m), (1, .int fl), (2, .int e), (3, .int cut), (4, .int 1)]) rfl rfl ?_
    refine WX.s1 rfl rfl ?_
    refine WX.if_ rfl (fun c_14 => ?_) (fun c_14 => ?_)
    · skip
      refine WX.s1 rfl rfl ?_
      refine WX.ret1 rfl (k0 ?_)
      unfold pBad
      first
        | exact Or.inl c_14
        | exact Or.inr (Or.inl c_20)
        | exact Or.inr (Or.inr (Or.inl c_24))
        | exact Or.inr (Or.inr (Or.inr (Or.inl c_30)))
        | exact Or.inr (Or.inr (Or.inr (Or.inr (Or.inl c_35))))
        | exact Or.inr (Or.inr (Or.inr (Or.inr (Or.inr (Or.inl c_42)))))
        | exact Or.inr (Or.inr (Or.inr (Or.inr (Or.inr (Or.inr ⟨c_3, Int32.not_le.mp c_57⟩)))))
    · skip
      refine WX.s1 rfl rfl ?_
      refine WX.s1 rfl rfl ?_
      refine WX.icmp rfl (fun c_20 => ?_) (fun c_20 => ?_)
      · skip
        refine WX.s1 rfl rfl ?_
        refine WX.ret1 rfl (k0 ?_)
        unfold pBad
        first
          | exact Or.inl c_14
          | exact Or.inr (Or.inl c_20)
          | exact Or.inr (Or.inr (Or.inl c_24))
          | exact Or.inr (Or.inr (Or.inr (Or.inl c_30)))
          | exact Or.inr (Or.inr (Or.inr (Or.inr (Or.inl c_35))))
          | exact Or.inr (Or.inr (Or.inr (Or.inr (Or.inr (Or.inl c_42)))))
          | exact Or.inr (Or.inr (Or.inr (Or.inr (Or.inr (Or.inr ⟨c_3, Int32.not_le.mp c_57⟩)))))
      · skip
        refine WX.s1 rfl rfl ?_
        refine WX.if_ rfl (fun c_24 => ?_) (fun c_24 => ?_)
        · skip
          refine WX.s1 rfl rfl ?_
          refine WX.ret1 rfl (k0 ?_)
          unfold pBad
          first
            | exact Or.inl c_14
            | exact Or.inr (Or.inl c_20)
            | exact Or.inr (Or.inr (Or.inl c_24))
            | exact Or.inr (Or.inr (Or.inr (Or.inl c_30)))
            | exact Or.inr (Or.inr (Or.inr (Or.inr (Or.inl c_35))))
            | exact Or.inr (Or.inr (Or.inr (Or.inr (Or.inr (Or.inl c_42)))))
            | exact Or.inr (Or.inr (Or.inr (Or.inr (Or.inr (Or.inr ⟨c_3, Int32.not_le.mp c_57⟩)))))
        · skip
          refine WX.s1 rfl rfl ?_
          refine WX.s1 rfl rfl ?_
          refine WX.icmp rfl (fun c_30 => ?_) (fun c_30 => ?_)
          · skip
            refine WX.s1 rfl rfl ?_
            refine WX.ret1 rfl (k0 ?_)
            unfold pBad
            first
              | exact Or.inl c_14
              | exact Or.inr (Or.inl c_20)
              | exact Or.inr (Or.inr (Or.inl c_24))
              | exact Or.inr (Or.inr (Or.inr (Or.inl c_30)))
              | exact Or.inr (Or.inr (Or.inr (Or.inr (Or.inl c_35))))
              | exact Or.inr (Or.inr (Or.inr (Or.inr (Or.inr (Or.inl c_42)))))
              | exact Or.inr (Or.inr (Or.inr (Or.inr (Or.inr (Or.inr ⟨c_3, Int32.not_le.mp c_57⟩)))))
          · skip
            refine WX.s1 rfl rfl ?_
            refine WX.s1 rfl rfl ?_
            refine WX.icmp rfl (fun c_35 => ?_) (fun c_35 => ?_)
            · skip
              refine WX.s1 rfl rfl ?_
              refine WX.ret1 rfl (k0 ?_)
              unfold pBad
              first
                | exact Or.inl c_14
                | exact Or.inr (Or.inl c_20)
                | exact Or.inr (Or.inr (Or.inl c_24))
                | exact Or.inr (Or.inr (Or.inr (Or.inl c_30)))
                | exact Or.inr (Or.inr (Or.inr (Or.inr (Or.inl c_35))))
                | exact Or.inr (Or.inr (Or.inr (Or.inr (Or.inr (Or.inl c_42)))))
                | exact Or.inr (Or.inr (Or.inr (Or.inr (Or.inr (Or.inr ⟨c_3, Int32.not_le.mp c_57⟩)))))
            · skip
              refine WX.s1 rfl rfl ?_
              refine WX.s1 rfl rfl ?_
              refine WX.icmp rfl (fun c_42 => ?_) (fun c_42 => ?_)
              · skip
                refine WX.s1 rfl rfl ?_
                refine WX.ret1 rfl (k0 ?_)
                unfold pBad
                first
                  | exact Or.inl c_14
                  | exact Or.inr (Or.inl c_20)
                  | exact Or.inr (Or.inr (Or.inl c_24))
                  | exact Or.inr (Or.inr (Or.inr (Or.inl c_30)))
                  | exact Or.inr (Or.inr (Or.inr (Or.inr (Or.inl c_35))))
                  | exact Or.inr (Or.inr (Or.inr (Or.inr (Or.inr (Or.inl c_42)))))
                  | exact Or.inr (Or.inr (Or.inr (Or.inr (Or.inr (Or.inr ⟨c_3, Int32.not_le.mp c_57⟩)))))
              · skip
                refine WX.s1 rfl rfl ?_
                refine WX.if_ rfl (fun c_47 => ?_) (fun c_47 => absurd (by decide) c_47)
                clear c_47
                have hgood : ¬ pBad fl e cut := by
                  rintro (q | q | q | q | q | q | q)
                  · exact c_14 q
                  · exact c_20 q
                  · exact c_24 q
                  · exact c_30 q
                  · exact c_35 q
                  · exact c_42 q
                  · exact c_3 q.1
                have hcut : ¬ cut < 1 := c_35
                refine WX.s1 rfl rfl ?_
                refine WX.s1 (L' := [(0, .ref m), (1, .int fl), (2, .int e), (3, .int cut), (4, .int 1), (5, .int 0)]) rfl rfl ?_
                have lp65 : ∀ (t i : Nat) (hL : Nat → aE) (AL : Nat → Nat → Int32), i + t = 12 → MAt hL m I AL LN → Fr h hL (inM m) → WX (lk tX12_press) (mM (d + 4)) Ψ 65 [(0, .ref m), (1, .int fl), (2, .int e), (3, .int cut), (4, .int 1), (5, .int (nI i))] [] (n, s, hL) := by
                  clear M_h FR_h
                  intro t
                  induction t with
                  | zero =>
                    intro i hL AL ht M_hL FR_hL
                    refine WX.s1 rfl rfl ?_
                    refine WX.s1 rfl rfl ?_
                    refine WX.icmp rfl (fun c_69 => ?_) (fun c_69 => absurd (nI_le (a := 12) (by omega) (by omega)) c_69)
                    refine WX.s1 rfl rfl ?_
                    refine WX.s1 rfl rfl ?_
                    refine WX.mput rfl hm M_hL (rfl) (by decide) (fun _ => rfl) (fun h88n30 I88n30 e_I88n30 M_h88n30 frh88n30 => ?_)
                    have FR_h88n30 := FR_hL.ztr frh88n30
                    have FI_I88n30 : Fi I I88n30 (fun f => f = 40 ∨ f = 20 ∨ f = 25 ∨ f = 31 ∨ f = 33 ∨ f = 15 ∨ f = 27 ∨ f = 3) := FI_I.zup e_I88n30 (by first | exact rfl | decide | omega)
                    have K_I88n30_1 : I88n30 1 = 0 := by rw [e_I88n30]; exact (pk_un (by decide)).trans K_I_1
                    have K_I88n30_8 : I88n30 8 = 0 := by rw [e_I88n30]; exact (pk_un (by decide)).trans K_I_8
                    have K_I88n30_7 : I88n30 7 = 0 := by rw [e_I88n30]; exact (pk_un (by decide)).trans K_I_7
                    have K_I88n30_9 : I88n30 9 = 0 := by rw [e_I88n30]; exact (pk_un (by decide)).trans K_I_9
                    have K_I88n30_40 : I88n30 40 = (nI 0) := by rw [e_I88n30]; exact pk_us.trans (rfl)
                    clear M_hL FR_hL FI_I e_I88n30 frh88n30 K_I_1 K_I_8 K_I_7 K_I_9
                    refine WX.s1 rfl rfl ?_
                    refine WX.if_ rfl (fun c_93 => ?_) (fun c_93 => absurd (by decide) c_93)
                    clear c_93
                    refine WX.s1 rfl rfl ?_
                    refine WX.s1 rfl rfl ?_
                    refine WX.s1 (L' := [(0, .ref m), (1, .int fl), (2, .int e), (3, .int cut), (4, .int 1), (5, .int 1)]) rfl rfl ?_
                    refine WX.s1 rfl rfl ?_
                    refine WX.if_ rfl (fun c_111 => ?_) (fun c_111 => absurd (by decide) c_111)
                    clear c_111
                    refine WX.s1 rfl rfl ?_
                    refine WX.if_ rfl (fun c_120 => absurd c_120 (by decide)) (fun c_120 => ?_)
                    clear c_120
                    refine WX.s1 rfl rfl ?_
                    refine WX.mgetK (x := 0) rfl hm M_h88n30 rfl K_I88n30_1 ?_
                    refine WX.s1 rfl rfl ?_
                    refine WX.icmp rfl (fun c_130 => absurd c_130 (by decide)) (fun c_130 => ?_)
                    clear c_130
                    refine WX.s1 rfl rfl ?_
                    refine WX.s1 rfl rfl ?_
                    refine WX.s1 (L' := [(0, .ref m), (1, .int fl), (2, .int e), (3, .int cut), (4, .int 1), (5, .int 1), (6, .int 0)]) rfl rfl ?_
                    refine WX.s1 rfl rfl ?_
                    refine WX.mgetK (x := 0) rfl hm M_h88n30 rfl K_I88n30_8 ?_
                    refine WX.s1 rfl rfl ?_
                    refine WX.s1 rfl rfl ?_
                    refine WX.s1 rfl rfl ?_
                    refine WX.lsN (L' := fun x163 => [(0, .ref m), (1, .int fl), (2, .int e), (3, .int cut), (4, .int 1), (5, .int 1), (6, .int 0), (7, .long x163)]) rfl (fun _ => rfl) (fun x163 e_x163 => ?_)
                    try dsimp only at e_x163
                    obtain rfl : x163 = 0 := e_x163.trans (by decide)
                    clear e_x163
                    have t210 : WX (lk tX12_press) (mM (d + 4)) Ψ 210 [(0, .ref m), (1, .int fl), (2, .int e), (3, .int cut), (4, .int 1), (5, .int 1), (6, .int 0), (7, .long 0)] [.int 0] (n, s, h88n30) := by
                      refine WX.s1 (L' := [(0, .ref m), (1, .int fl), (2, .int e), (3, .int cut), (4, .int 1), (5, .int 1), (6, .int 0), (7, .long 0), (9, .int 0)]) rfl rfl ?_
                      refine WX.s1 rfl rfl ?_
                      refine WX.s1 rfl rfl ?_
                      refine WX.s1 rfl rfl ?_
                      refine WX.callC (vs := [.ref m, .long 4247762216, .int 4]) rfl rfl rfl (Nat.le_of_ble_eq_true rfl) (M_h88n30.rcv hm) ?_
                      refine m_sayNum hm M_h88n30 (b := 4) (by decide) (by decide) K_I88n30_40 (fun h217n31 I217n31 A217n31 fr217n31 M_h217n31 fi217n31 K_I217n31_40 => ?_)
                      have K_I217n31_1 : I217n31 1 = 0 := (fi217n31 1 (by decide)).trans K_I88n30_1
                      have K_I217n31_8 : I217n31 8 = 0 := (fi217n31 8 (by decide)).trans K_I88n30_8
                      have K_I217n31_7 : I217n31 7 = 0 := (fi217n31 7 (by decide)).trans K_I88n30_7
                      have K_I217n31_9 : I217n31 9 = 0 := (fi217n31 9 (by decide)).trans K_I88n30_9
                      have FR_h217n31 := FR_h88n30.ztr fr217n31
                      have FI_I217n31 : Fi I I217n31 (fun f => f = 40 ∨ f = 20 ∨ f = 25 ∨ f = 31 ∨ f = 33 ∨ f = 15 ∨ f = 27 ∨ f = 3) := FI_I88n30.zsub fi217n31 (fun j hj => by omega)
                      clear M_h88n30 FR_h88n30 FI_I88n30 fr217n31 fi217n31 K_I88n30_1 K_I88n30_8 K_I88n30_7 K_I88n30_9 K_I88n30_40
                      show WX _ _ _ 220 [(0, .ref m), (1, .int fl), (2, .int e), (3, .int cut), (4, .int 1), (5, .int 1), (6, .int 0), (7, .long 0), (9, .int 0)] [] (n, s, h217n31)
                      refine WX.s1 rfl rfl ?_
                      refine WX.s1 rfl rfl ?_
                      refine WX.s1 rfl rfl ?_
                      refine WX.s1 rfl rfl ?_
                      refine WX.s1 rfl rfl ?_
                      refine WX.if_ rfl (fun c_228 => absurd c_228 (by decide)) (fun c_228 => ?_)
                      clear c_228
                      refine WX.s1 rfl rfl ?_
                      refine WX.s1 rfl rfl ?_
                      refine WX.s1 rfl rfl ?_
                      have t249 : ∀ v, WX (lk tX12_press) (mM (d + 4)) Ψ 249 [(0, .ref m), (1, .int fl), (2, .int e), (3, .int cut), (4, .int 1), (5, .int 1), (6, .int 0), (7, .long 0), (9, .int 0)] [.int v, .int ((64 * 0) + 32), .ref m] (n, s, h217n31) := by
                        intro v
                        refine WX.s1 rfl rfl ?_
                        refine WX.s1 rfl rfl ?_
                        refine WX.s1 rfl rfl ?_
                        refine WX.callC (vs := [.ref m, .int ((((64 * 0) + 32) + v) + 0)]) rfl rfl rfl (Nat.le_of_ble_eq_true rfl) (M_h217n31.rcv hm) ?_
                        refine m_say hm M_h217n31 (by decide) K_I217n31_40 (fun h253n32 I253n32 A253n32 fr253n32 M_h253n32 fi253n32 K_I253n32_40 => ?_)
                        have K_I253n32_1 : I253n32 1 = 0 := (fi253n32 1 (by decide)).trans K_I217n31_1
                        have K_I253n32_8 : I253n32 8 = 0 := (fi253n32 8 (by decide)).trans K_I217n31_8
                        have K_I253n32_7 : I253n32 7 = 0 := (fi253n32 7 (by decide)).trans K_I217n31_7
                        have K_I253n32_9 : I253n32 9 = 0 := (fi253n32 9 (by decide)).trans K_I217n31_9
                        have FR_h253n32 := FR_h217n31.ztr fr253n32
                        have FI_I253n32 : Fi I I253n32 (fun f => f = 40 ∨ f = 20 ∨ f = 25 ∨ f = 31 ∨ f = 33 ∨ f = 15 ∨ f = 27 ∨ f = 3) := FI_I217n31.zsub fi253n32 (fun j hj => by omega)
                        clear M_h217n31 FR_h217n31 FI_I217n31 fr253n32 fi253n32 K_I217n31_40 K_I217n31_1 K_I217n31_8 K_I217n31_7 K_I217n31_9
                        show WX _ _ _ 256 [(0, .ref m), (1, .int fl), (2, .int e), (3, .int cut), (4, .int 1), (5, .int 1), (6, .int 0), (7, .long 0), (9, .int 0)] [] (n, s, h253n32)
                        refine WX.s1 rfl rfl ?_
                        refine WX.if_ rfl (fun c_258 => ?_) (fun c_258 => absurd (by decide) c_258)
                        clear c_258
                        refine WX.s1 rfl rfl ?_
                        refine WX.s1 rfl rfl ?_
                        refine WX.s1 rfl rfl ?_
                        refine WX.s1 rfl rfl ?_
                        refine WX.icmp rfl (fun c_275 => ?_) (fun c_275 => absurd (by decide) c_275)
                        clear c_275
                        refine WX.s1 rfl rfl ?_
                        refine WX.callC (vs := [.ref m, .long 0, .int 0]) rfl rfl rfl (Nat.le_of_ble_eq_true rfl) (M_h253n32.rcv hm) ?_
                        refine m_sayNum hm M_h253n32 (b := 0) (by decide) (by decide) K_I253n32_40 (fun h284n33 I284n33 A284n33 fr284n33 M_h284n33 fi284n33 K_I284n33_40 => ?_)
                        have K_I284n33_1 : I284n33 1 = 0 := (fi284n33 1 (by decide)).trans K_I253n32_1
                        have K_I284n33_8 : I284n33 8 = 0 := (fi284n33 8 (by decide)).trans K_I253n32_8
                        have K_I284n33_7 : I284n33 7 = 0 := (fi284n33 7 (by decide)).trans K_I253n32_7
                        have K_I284n33_9 : I284n33 9 = 0 := (fi284n33 9 (by decide)).trans K_I253n32_9
                        have FR_h284n33 := FR_h253n32.ztr fr284n33
                        have FI_I284n33 : Fi I I284n33 (fun f => f = 40 ∨ f = 20 ∨ f = 25 ∨ f = 31 ∨ f = 33 ∨ f = 15 ∨ f = 27 ∨ f = 3) := FI_I253n32.zsub fi284n33 (fun j hj => by omega)
                        clear M_h253n32 FR_h253n32 FI_I253n32 fr284n33 fi284n33 K_I253n32_40 K_I253n32_1 K_I253n32_8 K_I253n32_7 K_I253n32_9
                        show WX _ _ _ 287 [(0, .ref m), (1, .int fl), (2, .int e), (3, .int cut), (4, .int 1), (5, .int 1), (6, .int 0), (7, .long 0), (9, .int 0)] [] (n, s, h284n33)
                        refine WX.s1 rfl rfl ?_
                        refine WX.if_ rfl (fun c_289 => absurd c_289 (by decide)) (fun c_289 => ?_)
                        clear c_289
                        refine WX.s1 rfl rfl ?_
                        refine WX.s1 rfl rfl ?_
                        refine WX.s1 rfl rfl ?_
                        refine WX.icmp rfl (fun c_296 => ?_) (fun c_296 => absurd (by decide) c_296)
                        clear c_296
                        refine WX.s1 rfl rfl ?_
                        refine WX.mgetK (x := 0) rfl hm M_h284n33 rfl K_I284n33_1 ?_
                        refine WX.s1 rfl rfl ?_
                        refine WX.s1 rfl rfl ?_
                        refine WX.if_ rfl (fun c_318 => absurd c_318 (by decide)) (fun c_318 => ?_)
                        clear c_318
                        refine WX.s1 rfl rfl ?_
                        refine WX.s1 rfl rfl ?_
                        refine WX.callC (vs := [.ref m, .long _, .int 1]) rfl rfl rfl (Nat.le_of_ble_eq_true rfl) (M_h284n33.rcv hm) ?_
                        refine m_sayNum hm M_h284n33 (b := 1) (by decide) (by decide) K_I284n33_40 (fun h336n34 I336n34 A336n34 fr336n34 M_h336n34 fi336n34 K_I336n34_40 => ?_)
                        have K_I336n34_1 : I336n34 1 = 0 := (fi336n34 1 (by decide)).trans K_I284n33_1
                        have K_I336n34_8 : I336n34 8 = 0 := (fi336n34 8 (by decide)).trans K_I284n33_8
                        have K_I336n34_7 : I336n34 7 = 0 := (fi336n34 7 (by decide)).trans K_I284n33_7
                        have K_I336n34_9 : I336n34 9 = 0 := (fi336n34 9 (by decide)).trans K_I284n33_9
                        have FR_h336n34 := FR_h284n33.ztr fr336n34
                        have FI_I336n34 : Fi I I336n34 (fun f => f = 40 ∨ f = 20 ∨ f = 25 ∨ f = 31 ∨ f = 33 ∨ f = 15 ∨ f = 27 ∨ f = 3) := FI_I284n33.zsub fi336n34 (fun j hj => by omega)
                        clear M_h284n33 FR_h284n33 FI_I284n33 fr336n34 fi336n34 K_I284n33_40 K_I284n33_1 K_I284n33_8 K_I284n33_7 K_I284n33_9
                        show WX _ _ _ 339 [(0, .ref m), (1, .int fl), (2, .int e), (3, .int cut), (4, .int 1), (5, .int 1), (6, .int 0), (7, .long 0), (9, .int 0)] [] (n, s, h336n34)
                        refine WX.s1 rfl rfl ?_
                        refine WX.s1 rfl rfl ?_
                        refine WX.if_ rfl (fun c_342 => absurd c_342 (by decide)) (fun c_342 => ?_)
                        clear c_342
                        refine WX.s1 rfl rfl ?_
                        refine WX.mgetK (x := 0) rfl hm M_h336n34 rfl K_I336n34_1 ?_
                        refine WX.s1 rfl rfl ?_
                        refine WX.mput rfl hm M_h336n34 (rfl) (by decide) (fun _ => rfl) (fun h358n35 I358n35 e_I358n35 M_h358n35 frh358n35 => ?_)
                        have FR_h358n35 := FR_h336n34.ztr frh358n35
                        have FI_I358n35 : Fi I I358n35 (fun f => f = 40 ∨ f = 20 ∨ f = 25 ∨ f = 31 ∨ f = 33 ∨ f = 15 ∨ f = 27 ∨ f = 3) := FI_I336n34.zup e_I358n35 (by first | exact rfl | decide | omega)
                        have K_I358n35_40 : I358n35 40 = (nI 6) := by rw [e_I358n35]; exact (pk_un (by decide)).trans K_I336n34_40
                        have K_I358n35_1 : I358n35 1 = 0 := by rw [e_I358n35]; exact (pk_un (by decide)).trans K_I336n34_1
                        have K_I358n35_8 : I358n35 8 = 0 := by rw [e_I358n35]; exact (pk_un (by decide)).trans K_I336n34_8
                        have K_I358n35_7 : I358n35 7 = 0 := by rw [e_I358n35]; exact (pk_un (by decide)).trans K_I336n34_7
                        have K_I358n35_9 : I358n35 9 = 0 := by rw [e_I358n35]; exact (pk_un (by decide)).trans K_I336n34_9
                        have K_I358n35_27 : I358n35 27 = 0 := by rw [e_I358n35]; exact pk_us
                        clear M_h336n34 FR_h336n34 FI_I336n34 e_I358n35 frh358n35 K_I336n34_40 K_I336n34_1 K_I336n34_8 K_I336n34_7 K_I336n34_9
                        refine WX.s1 rfl rfl ?_
                        refine WX.callC (vs := [.ref m]) rfl rfl rfl (Nat.le_of_ble_eq_true rfl) (M_h358n35.rcv hm) ?_
                        refine m_begf hm M_h358n35 K_I358n35_9 (fun h362n36 I362n36 A362n36 fr362n36 M_h362n36 fi362n36 K_I362n36_15 => ?_)
                        have K_I362n36_40 : I362n36 40 = (nI 6) := (fi362n36 40 (by decide)).trans K_I358n35_40
                        have K_I362n36_1 : I362n36 1 = 0 := (fi362n36 1 (by decide)).trans K_I358n35_1
                        have K_I362n36_8 : I362n36 8 = 0 := (fi362n36 8 (by decide)).trans K_I358n35_8
                        have K_I362n36_7 : I362n36 7 = 0 := (fi362n36 7 (by decide)).trans K_I358n35_7
                        have K_I362n36_9 : I362n36 9 = 0 := (fi362n36 9 (by decide)).trans K_I358n35_9
                        have K_I362n36_27 : I362n36 27 = 0 := (fi362n36 27 (by decide)).trans K_I358n35_27
                        have FR_h362n36 := FR_h358n35.ztr fr362n36
                        have FI_I362n36 : Fi I I362n36 (fun f => f = 40 ∨ f = 20 ∨ f = 25 ∨ f = 31 ∨ f = 33 ∨ f = 15 ∨ f = 27 ∨ f = 3) := FI_I358n35.zsub fi362n36 (fun j hj => by omega)
                        clear M_h358n35 FR_h358n35 FI_I358n35 fr362n36 fi362n36 K_I358n35_40 K_I358n35_1 K_I358n35_8 K_I358n35_7 K_I358n35_9 K_I358n35_27
                        show WX _ _ _ 365 [(0, .ref m), (1, .int fl), (2, .int e), (3, .int cut), (4, .int 1), (5, .int 1), (6, .int 0), (7, .long 0), (9, .int 0)] [] (n, s, h362n36)
                        refine WX.s1 rfl rfl ?_
                        refine WX.s1 (L' := [(0, .ref m), (1, .int fl), (2, .int e), (3, .int cut), (4, .int 1), (5, .int 1), (6, .int 0), (7, .long 0), (9, .int 0), (10, .int 0)]) rfl rfl ?_
                        refine WX.s1 rfl rfl ?_
                        refine WX.s1 (L' := [(0, .ref m), (1, .int fl), (2, .int e), (3, .int cut), (4, .int 1), (5, .int 1), (6, .int 0), (7, .long 0), (9, .int 0), (10, .int 0), (11, .int 1)]) rfl rfl ?_
                        refine WX.s1 rfl rfl ?_
                        refine WX.if_ rfl (fun c_373 => absurd c_373 (by decide)) (fun c_373 => ?_)
                        clear c_373
                        refine WX.s1 rfl rfl ?_
                        refine WX.s1 rfl rfl ?_
                        refine WX.s1 rfl rfl ?_
                        refine WX.s1 rfl rfl ?_
                        refine WX.mgetK (x := 0) rfl hm M_h362n36 rfl K_I362n36_1 ?_
                        refine WX.icmp rfl (fun c_384 => ?_) (fun c_384 => absurd (ge0 hcut) c_384)
                        refine WX.s1 rfl rfl ?_
                        refine WX.mgetK (x := 0) rfl hm M_h362n36 rfl K_I362n36_1 ?_
                        refine WX.s1 (L' := [(0, .ref m), (1, .int fl), (2, .int e), (3, .int cut), (4, .int 1), (5, .int 1), (6, .int 0), (7, .long 0), (9, .int 0), (10, .int 0), (11, .int 1), (12, .int 0)]) rfl rfl ?_
                        refine WX.s1 rfl rfl ?_
                        refine WX.s1 rfl rfl ?_
                        refine WX.mgetK (x := 0) rfl hm M_h362n36 rfl K_I362n36_1 ?_
                        refine WX.icmp rfl (fun c_406 => ?_) (fun c_406 => absurd (by decide) c_406)
                        clear c_406
                        refine WX.s1 rfl rfl ?_
                        refine WX.s1 (L' := [(0, .ref m), (1, .int fl), (2, .int e), (3, .int cut), (4, .int 1), (5, .int 1), (6, .int 0), (7, .long 0), (9, .int 0), (10, .int 0), (11, .int 0), (12, .int 0)]) rfl rfl ?_
                        refine WX.s1 rfl rfl ?_
                        refine WX.s1 rfl rfl ?_
                        refine WX.s1 rfl rfl ?_
                        refine WX.s1 rfl rfl ?_
                        refine WX.if_ rfl (fun c_423 => absurd c_423 (by decide)) (fun c_423 => ?_)
                        clear c_423
                        refine WX.s1 rfl rfl ?_
                        refine WX.s1 rfl rfl ?_
                        refine WX.callC (vs := [.ref m, .int 0, .int 0, .int 1]) rfl rfl rfl (Nat.le_of_ble_eq_true rfl) (M_h362n36.rcv hm) ?_
                        refine m_block0 hm M_h362n36 (by decide) K_I362n36_40 K_I362n36_7 K_I362n36_15 (fun h431n37 I431n37 A431n37 fr431n37 M_h431n37 fi431n37 K_I431n37_40 => ?_)
                        have K_I431n37_1 : I431n37 1 = 0 := (fi431n37 1 (by decide)).trans K_I362n36_1
                        have K_I431n37_8 : I431n37 8 = 0 := (fi431n37 8 (by decide)).trans K_I362n36_8
                        have K_I431n37_7 : I431n37 7 = 0 := (fi431n37 7 (by decide)).trans K_I362n36_7
                        have K_I431n37_9 : I431n37 9 = 0 := (fi431n37 9 (by decide)).trans K_I362n36_9
                        have K_I431n37_27 : I431n37 27 = 0 := (fi431n37 27 (by decide)).trans K_I362n36_27
                        have FR_h431n37 := FR_h362n36.ztr fr431n37
                        have FI_I431n37 : Fi I I431n37 (fun f => f = 40 ∨ f = 20 ∨ f = 25 ∨ f = 31 ∨ f = 33 ∨ f = 15 ∨ f = 27 ∨ f = 3) := FI_I362n36.zsub fi431n37 (fun j hj => by omega)
                        clear M_h362n36 FR_h362n36 FI_I362n36 fr431n37 fi431n37 K_I362n36_15 K_I362n36_40 K_I362n36_1 K_I362n36_8 K_I362n36_7 K_I362n36_9 K_I362n36_27
                        show WX _ _ _ 434 [(0, .ref m), (1, .int fl), (2, .int e), (3, .int cut), (4, .int 1), (5, .int 1), (6, .int 0), (7, .long 0), (9, .int 0), (10, .int 0), (11, .int 0), (12, .int 0)] [] (n, s, h431n37)
                        refine WX.s1 rfl rfl ?_
                        refine WX.s1 (L' := [(0, .ref m), (1, .int fl), (2, .int e), (3, .int cut), (4, .int 1), (5, .int 1), (6, .int 0), (7, .long 0), (9, .int 0), (10, .int 0), (11, .int 0), (12, .int 0)]) rfl rfl ?_
                        refine WX.s1 rfl rfl ?_
                        refine WX.s1 rfl rfl ?_
                        refine WX.if_ rfl (fun c_373 => ?_) (fun c_373 => absurd (by decide) c_373)
                        clear c_373
                        refine WX.s1 rfl rfl ?_
                        refine WX.s1 rfl rfl ?_
                        refine WX.s1 rfl rfl ?_
                        refine WX.if_ rfl (fun c_444 => ?_) (fun c_444 => ?_)
                        · skip
                          refine WX.s1 rfl rfl ?_
                          have ec : pCnt fl = 9 := by
                            unfold pCnt hCnt
                            first | rw [if_neg c_3, if_pos c_444] | rw [if_neg c_3, if_neg c_444] | rw [if_pos c_3, if_pos c_99, if_pos c_444] | rw [if_pos c_3, if_pos c_99, if_neg c_444] | rw [if_pos c_3, if_neg c_99, if_pos c_444] | rw [if_pos c_3, if_neg c_99, if_neg c_444]
                          have K_I431n37_40 : I431n37 40 = nI (pCnt fl) := by rw [ec]; exact K_I431n37_40
                          refine WX.callC (vs := [.ref m]) rfl rfl rfl (Nat.le_of_ble_eq_true rfl) (M_h431n37.rcv hm) ?_
                          refine m_show hm M_h431n37 (by rw [ec]; decide) K_I431n37_40 (fun h461n38 I461n38 A461n38 fr461n38 M_h461n38 fi461n38 K_I461n38_3 => ?_)
                          have K_I461n38_40 : I461n38 40 = (nI (pCnt fl)) := (fi461n38 40 (by decide)).trans K_I431n37_40
                          have K_I461n38_1 : I461n38 1 = 0 := (fi461n38 1 (by decide)).trans K_I431n37_1
                          have K_I461n38_8 : I461n38 8 = 0 := (fi461n38 8 (by decide)).trans K_I431n37_8
                          have K_I461n38_7 : I461n38 7 = 0 := (fi461n38 7 (by decide)).trans K_I431n37_7
                          have K_I461n38_9 : I461n38 9 = 0 := (fi461n38 9 (by decide)).trans K_I431n37_9
                          have K_I461n38_27 : I461n38 27 = 0 := (fi461n38 27 (by decide)).trans K_I431n37_27
                          have FR_h461n38 := FR_h431n37.ztr fr461n38
                          have FI_I461n38 : Fi I I461n38 (fun f => f = 40 ∨ f = 20 ∨ f = 25 ∨ f = 31 ∨ f = 33 ∨ f = 15 ∨ f = 27 ∨ f = 3) := FI_I431n37.zsub fi461n38 (fun j hj => by omega)
                          clear M_h431n37 FR_h431n37 FI_I431n37 fr461n38 fi461n38 K_I431n37_40 K_I431n37_1 K_I431n37_8 K_I431n37_7 K_I431n37_9 K_I431n37_27
                          show WX _ _ _ 464 [(0, .ref m), (1, .int fl), (2, .int e), (3, .int cut), (4, .int 1), (5, .int 1), (6, .int 0), (7, .long 0), (9, .int 0), (10, .int 0), (11, .int 0), (12, .int 0)] [.int (nI (pCnt fl))] (n, s, h461n38)
                          refine WX.s1 (L' := [(0, .ref m), (1, .int fl), (2, .int e), (3, .int cut), (4, .int 1), (5, .int 1), (6, .int 0), (7, .long 0), (9, .int 0), (10, .int 0), (11, .int 0), (12, .int (nI (pCnt fl)))]) rfl rfl ?_
                          refine WX.s1 rfl rfl ?_
                          refine WX.s1 (L' := [(0, .ref m), (1, .int fl), (2, .int e), (3, .int cut), (4, .int 1), (5, .int 1), (6, .int 0), (7, .long 0), (9, .int 0), (10, .int 0), (11, .int 0), (12, .int (nI (pCnt fl))), (13, .int 0)]) rfl rfl ?_
                          have lp469 : ∀ (t i : Nat) (hL : Nat → aE) (AL : Nat → Nat → Int32), i + t = 12 → MAt hL m I461n38 AL LN → Fr h hL (inM m) → WX (lk tX12_press) (mM (d + 4)) Ψ 469 [(0, .ref m), (1, .int fl), (2, .int e), (3, .int cut), (4, .int 1), (5, .int 1), (6, .int 0), (7, .long 0), (9, .int 0), (10, .int 0), (11, .int 0), (12, .int (nI (pCnt fl))), (13, .int (nI i))] [] (n, s, hL) := by
                            clear M_h461n38 FR_h461n38
                            intro t
                            induction t with
                            | zero =>
                              intro i hL AL ht M_hL FR_hL
                              refine WX.s1 rfl rfl ?_
                              refine WX.s1 rfl rfl ?_
                              refine WX.icmp rfl (fun c_473 => ?_) (fun c_473 => absurd (nI_le (a := 12) (by omega) (by omega)) c_473)
                              refine WX.s1 rfl rfl ?_
                              exact WX.ret1 rfl (k1 hL hgood FR_hL)
                            | succ t ih =>
                              intro i hL AL ht M_hL FR_hL
                              refine WX.s1 rfl rfl ?_
                              refine WX.s1 rfl rfl ?_
                              refine WX.icmp rfl (fun c_473 => absurd c_473 (nI_ge (b := 12) (by omega) (by omega))) (fun c_473 => ?_)
                              refine WX.s1 rfl rfl ?_
                              refine WX.if_ rfl (fun c_478 => absurd c_478 (nI_pos (by rw [ec]; decide))) (fun c_478 => ?_)
                              refine WX.s1 rfl rfl ?_
                              refine WX.mget rfl hm M_hL rfl ?_
                              refine WX.s1 rfl rfl ?_
                              refine WX.s1 rfl rfl ?_
                              refine WX.mget rfl hm M_hL rfl ?_
                              refine WX.s1 rfl rfl ?_
                              refine WX.mald (c := 42) rfl hm M_hL (by decide) (by decide) (by decide) (by decide) (vp_in_nI (N := 12) (by omega) (by decide)) ?_
                              refine WX.mast (c := 43) rfl hm M_hL (by decide) (by decide) (by decide) (by decide) (vp_in_nI (N := 12) (by omega) (by decide)) (fun h494n39 A494n39 e_A494n39 M_h494n39 frh494n39 => ?_)
                              have FR_h494n39 := FR_hL.ztr frh494n39
                              clear M_hL FR_hL frh494n39 e_A494n39
                              refine WX.s1 (L' := [(0, .ref m), (1, .int fl), (2, .int e), (3, .int cut), (4, .int 1), (5, .int 1), (6, .int 0), (7, .long 0), (9, .int 0), (10, .int 0), (11, .int 0), (12, .int (nI (pCnt fl))), (13, .int ((nI i) + 1))]) rfl rfl ?_
                              refine WX.s1 rfl rfl ?_
                              rw [nI_1 i]
                              exact ih (i + 1) h494n39 A494n39 (by omega) M_h494n39 FR_h494n39
                          exact lp469 12 0 h461n38 A461n38 (by omega) M_h461n38 FR_h461n38
                        · skip
                          refine WX.s1 rfl rfl ?_
                          refine WX.s1 rfl rfl ?_
                          refine WX.callC (vs := [.ref m]) rfl rfl rfl (Nat.le_of_ble_eq_true rfl) (M_h431n37.rcv hm) ?_
                          refine m_sum0 hm M_h431n37 K_I431n37_1 (fun x449 => ?_)
                          show WX _ _ _ 452 [(0, .ref m), (1, .int fl), (2, .int e), (3, .int cut), (4, .int 1), (5, .int 1), (6, .int 0), (7, .long 0), (9, .int 0), (10, .int 0), (11, .int 0), (12, .int 0)] [.long x449, .ref m] (n, s, h431n37)
                          refine WX.s1 rfl rfl ?_
                          refine WX.s1 rfl rfl ?_
                          refine WX.s1 rfl rfl ?_
                          refine WX.callC (vs := [.ref m, .long _, .int 4]) rfl rfl rfl (Nat.le_of_ble_eq_true rfl) (M_h431n37.rcv hm) ?_
                          refine m_sayNum hm M_h431n37 (b := 4) (by decide) (by decide) K_I431n37_40 (fun h457n41 I457n41 A457n41 fr457n41 M_h457n41 fi457n41 K_I457n41_40 => ?_)
                          have K_I457n41_1 : I457n41 1 = 0 := (fi457n41 1 (by decide)).trans K_I431n37_1
                          have K_I457n41_8 : I457n41 8 = 0 := (fi457n41 8 (by decide)).trans K_I431n37_8
                          have K_I457n41_7 : I457n41 7 = 0 := (fi457n41 7 (by decide)).trans K_I431n37_7
                          have K_I457n41_9 : I457n41 9 = 0 := (fi457n41 9 (by decide)).trans K_I431n37_9
                          have K_I457n41_27 : I457n41 27 = 0 := (fi457n41 27 (by decide)).trans K_I431n37_27
                          have FR_h457n41 := FR_h431n37.ztr fr457n41
                          have FI_I457n41 : Fi I I457n41 (fun f => f = 40 ∨ f = 20 ∨ f = 25 ∨ f = 31 ∨ f = 33 ∨ f = 15 ∨ f = 27 ∨ f = 3) := FI_I431n37.zsub fi457n41 (fun j hj => by omega)
                          clear M_h431n37 FR_h431n37 FI_I431n37 fr457n41 fi457n41 K_I431n37_40 K_I431n37_1 K_I431n37_8 K_I431n37_7 K_I431n37_9 K_I431n37_27
                          show WX _ _ _ 460 [(0, .ref m), (1, .int fl), (2, .int e), (3, .int cut), (4, .int 1), (5, .int 1), (6, .int 0), (7, .long 0), (9, .int 0), (10, .int 0), (11, .int 0), (12, .int 0)] [] (n, s, h457n41)
                          refine WX.s1 rfl rfl ?_
                          have ec : pCnt fl = 13 := by
                            unfold pCnt hCnt
                            first | rw [if_neg c_3, if_pos c_444] | rw [if_neg c_3, if_neg c_444] | rw [if_pos c_3, if_pos c_99, if_pos c_444] | rw [if_pos c_3, if_pos c_99, if_neg c_444] | rw [if_pos c_3, if_neg c_99, if_pos c_444] | rw [if_pos c_3, if_neg c_99, if_neg c_444]
                          have K_I457n41_40 : I457n41 40 = nI (pCnt fl) := by rw [ec]; exact K_I457n41_40
                          refine WX.callC (vs := [.ref m]) rfl rfl rfl (Nat.le_of_ble_eq_true rfl) (M_h457n41.rcv hm) ?_
                          refine m_show hm M_h457n41 (by rw [ec]; decide) K_I457n41_40 (fun h461n42 I461n42 A461n42 fr461n42 M_h461n42 fi461n42 K_I461n42_3 => ?_)
                          have K_I461n42_40 : I461n42 40 = (nI (pCnt fl)) := (fi461n42 40 (by decide)).trans K_I457n41_40
                          have K_I461n42_1 : I461n42 1 = 0 := (fi461n42 1 (by decide)).trans K_I457n41_1
                          have K_I461n42_8 : I461n42 8 = 0 := (fi461n42 8 (by decide)).trans K_I457n41_8
                          have K_I461n42_7 : I461n42 7 = 0 := (fi461n42 7 (by decide)).trans K_I457n41_7
                          have K_I461n42_9 : I461n42 9 = 0 := (fi461n42 9 (by decide)).trans K_I457n41_9
                          have K_I461n42_27 : I461n42 27 = 0 := (fi461n42 27 (by decide)).trans K_I457n41_27
                          have FR_h461n42 := FR_h457n41.ztr fr461n42
                          have FI_I461n42 : Fi I I461n42 (fun f => f = 40 ∨ f = 20 ∨ f = 25 ∨ f = 31 ∨ f = 33 ∨ f = 15 ∨ f = 27 ∨ f = 3) := FI_I457n41.zsub fi461n42 (fun j hj => by omega)
                          clear M_h457n41 FR_h457n41 FI_I457n41 fr461n42 fi461n42 K_I457n41_40 K_I457n41_1 K_I457n41_8 K_I457n41_7 K_I457n41_9 K_I457n41_27
                          show WX _ _ _ 464 [(0, .ref m), (1, .int fl), (2, .int e), (3, .int cut), (4, .int 1), (5, .int 1), (6, .int 0), (7, .long 0), (9, .int 0), (10, .int 0), (11, .int 0), (12, .int 0)] [.int (nI (pCnt fl))] (n, s, h461n42)
                          refine WX.s1 (L' := [(0, .ref m), (1, .int fl), (2, .int e), (3, .int cut), (4, .int 1), (5, .int 1), (6, .int 0), (7, .long 0), (9, .int 0), (10, .int 0), (11, .int 0), (12, .int (nI (pCnt fl)))]) rfl rfl ?_
                          refine WX.s1 rfl rfl ?_
                          refine WX.s1 (L' := [(0, .ref m), (1, .int fl), (2, .int e), (3, .int cut), (4, .int 1), (5, .int 1), (6, .int 0), (7, .long 0), (9, .int 0), (10, .int 0), (11, .int 0), (12, .int (nI (pCnt fl))), (13, .int 0)]) rfl rfl ?_
                          have lp469 : ∀ (t i : Nat) (hL : Nat → aE) (AL : Nat → Nat → Int32), i + t = 12 → MAt hL m I461n42 AL LN → Fr h hL (inM m) → WX (lk tX12_press) (mM (d + 4)) Ψ 469 [(0, .ref m), (1, .int fl), (2, .int e), (3, .int cut), (4, .int 1), (5, .int 1), (6, .int 0), (7, .long 0), (9, .int 0), (10, .int 0), (11, .int 0), (12, .int (nI (pCnt fl))), (13, .int (nI i))] [] (n, s, hL) := by
                            clear M_h461n42 FR_h461n42
                            intro t
                            induction t with
                            | zero =>
                              intro i hL AL ht M_hL FR_hL
                              refine WX.s1 rfl rfl ?_
                              refine WX.s1 rfl rfl ?_
                              refine WX.icmp rfl (fun c_473 => ?_) (fun c_473 => absurd (nI_le (a := 12) (by omega) (by omega)) c_473)
                              refine WX.s1 rfl rfl ?_
                              exact WX.ret1 rfl (k1 hL hgood FR_hL)
                            | succ t ih =>
                              intro i hL AL ht M_hL FR_hL
                              refine WX.s1 rfl rfl ?_
                              refine WX.s1 rfl rfl ?_
                              refine WX.icmp rfl (fun c_473 => absurd c_473 (nI_ge (b := 12) (by omega) (by omega))) (fun c_473 => ?_)
                              refine WX.s1 rfl rfl ?_
                              refine WX.if_ rfl (fun c_478 => absurd c_478 (nI_pos (by rw [ec]; decide))) (fun c_478 => ?_)
                              refine WX.s1 rfl rfl ?_
                              refine WX.mget rfl hm M_hL rfl ?_
                              refine WX.s1 rfl rfl ?_
                              refine WX.s1 rfl rfl ?_
                              refine WX.mget rfl hm M_hL rfl ?_
                              refine WX.s1 rfl rfl ?_
                              refine WX.mald (c := 42) rfl hm M_hL (by decide) (by decide) (by decide) (by decide) (vp_in_nI (N := 12) (by omega) (by decide)) ?_
                              refine WX.mast (c := 43) rfl hm M_hL (by decide) (by decide) (by decide) (by decide) (vp_in_nI (N := 12) (by omega) (by decide)) (fun h494n43 A494n43 e_A494n43 M_h494n43 frh494n43 => ?_)
                              have FR_h494n43 := FR_hL.ztr frh494n43
                              clear M_hL FR_hL frh494n43 e_A494n43
                              refine WX.s1 (L' := [(0, .ref m), (1, .int fl), (2, .int e), (3, .int cut), (4, .int 1), (5, .int 1), (6, .int 0), (7, .long 0), (9, .int 0), (10, .int 0), (11, .int 0), (12, .int (nI (pCnt fl))), (13, .int ((nI i) + 1))]) rfl rfl ?_
                              refine WX.s1 rfl rfl ?_
                              rw [nI_1 i]
                              exact ih (i + 1) h494n43 A494n43 (by omega) M_h494n43 FR_h494n43
                          exact lp469 12 0 h461n42 A461n42 (by omega) M_h461n42 FR_h461n42
                      refine WX.s1 rfl rfl ?_
                      refine WX.s1 rfl rfl ?_
                      refine WX.s1 rfl rfl ?_
                      refine WX.if_ rfl (fun c_241 => ?_) (fun c_241 => ?_)
                      · skip
                        refine WX.s1 rfl rfl ?_
                        exact t249 _
                      · skip
                        refine WX.s1 rfl rfl ?_
                        refine WX.s1 rfl rfl ?_
                        exact t249 _
                    refine WX.s1 rfl rfl ?_
                    refine WX.s1 rfl rfl ?_
                    refine WX.s1 rfl rfl ?_
                    refine WX.if_ rfl (fun c_169 => ?_) (fun c_169 => ?_)
                    · skip
                      refine WX.s1 rfl rfl ?_
                      refine WX.s1 rfl rfl ?_
                      exact t210
                    · skip
                      refine WX.s1 rfl rfl ?_
                      refine WX.s1 rfl rfl ?_
                      refine WX.s1 rfl rfl ?_
                      refine WX.if_ rfl (fun c_176 => absurd c_176 (by decide)) (fun c_176 => ?_)
                      refine WX.s1 rfl rfl ?_
                      refine WX.s1 rfl rfl ?_
                      exact t210
                  | succ t ih =>
                    intro i hL AL ht M_hL FR_hL
                    refine WX.s1 rfl rfl ?_
                    refine WX.s1 rfl rfl ?_
                    refine WX.icmp rfl (fun c_69 => absurd c_69 (nI_ge (b := 12) (by omega) (by omega))) (fun c_69 => ?_)
                    refine WX.s1 rfl rfl ?_
                    refine WX.mget rfl hm M_hL rfl ?_
                    refine WX.s1 rfl rfl ?_
                    refine WX.s1 rfl rfl ?_
                    refine WX.mast (c := 42) rfl hm M_hL (by decide) (by decide) (by decide) (by decide) (vp_in_nI (N := 12) (by omega) (by decide)) (fun h79n44 A79n44 e_A79n44 M_h79n44 frh79n44 => ?_)
                    have FR_h79n44 := FR_hL.ztr frh79n44
                    clear M_hL FR_hL frh79n44 e_A79n44
                    refine WX.s1 (L' := [(0, .ref m), (1, .int fl), (2, .int e), (3, .int cut), (4, .int 1), (5, .int ((nI i) + 1))]) rfl rfl ?_
                    refine WX.s1 rfl rfl ?_
                    rw [nI_1 i]
                    exact ih (i + 1) h79n44 A79n44 (by omega) M_h79n44 FR_h79n44
                exact lp65 12 0 h AR (by omega) M_h FR_h
