/-! a frame's head -/
def sgN (fl : Nat) : Nat := fl / 4 % 2
def szN (fl : Nat) : Nat := if sgN fl = 1 then 1 else fl / 2 % 2
def skV (u sg : Nat) : Nat := if u < 256 then (if sg = 0 then 2 else 0) else 1
def skN (fl u : Nat) : Nat := if szN fl = 0 then 0 else skV u (sgN fl)
def ikV (id : Nat) : Nat := if id = 0 then 0 else if id < 256 then 1 else if id < 65536 then 2 else 3
def ikN (fl id : Nat) : Nat := if fl / 8 % 2 = 1 then ikV id else 0
def ikB (k : Nat) : Nat := if k = 3 then 4 else k
def hd1 (fl id u : Nat) : Nat := 64 * skN fl u + 32 * sgN fl + 4 * (fl % 2) + ikN fl id
def hdE (fl e : Nat) : List Nat := if sgN fl = 1 then [] else [8 * e]
def hdZ (fl u : Nat) : List Nat := if szN fl = 1 then leBy (if skN fl u = 1 then u - 256 else u) (2 ^ skN fl u) else []
def hdF (fl e id u : Nat) : List Nat := leBy 4247762216 4 ++ ([hd1 fl id u] ++ (hdE fl e ++ (leBy id (ikB (ikN fl id)) ++ hdZ fl u)))
theorem fl_1 : ∀ fl, fl < 16 → (nI fl &&& 1 = 0 ↔ fl % 2 = 0) := by decide +kernel
theorem fl_2 : ∀ fl, fl < 16 → (nI fl &&& 2 = 0 ↔ fl / 2 % 2 = 0) := by decide +kernel
theorem fl_4 : ∀ fl, fl < 16 → (nI fl &&& 4 = 0 ↔ fl / 4 % 2 = 0) := by decide +kernel
theorem fl_8 : ∀ fl, fl < 16 → (nI fl &&& 8 = 0 ↔ fl / 8 % 2 = 0) := by decide +kernel
theorem sg_le (fl : Nat) : sgN fl ≤ 1 := by unfold sgN; omega
theorem sz_le (fl : Nat) : szN fl ≤ 1 := by unfold szN; split <;> omega
theorem sk_le (fl u : Nat) : skN fl u ≤ 2 := by
  unfold skN skV
  split
  · omega
  · split
    · split <;> omega
    · omega
theorem ik_le (fl id : Nat) : ikN fl id ≤ 3 := by
  unfold ikN ikV
  split
  · split
    · omega
    · split
      · omega
      · split <;> omega
  · omega
theorem sk_sh : ∀ k, k ≤ 2 → (1 : Int32) <<< (nI k &&& 31) = nI (2 ^ k) := by decide +kernel
theorem lcN_eq {a b : Nat} (ha : a < 2 ^ 63) (hb : b < 2 ^ 63) : lg_cmp (lN a) (lN b) = 0 ↔ a = b := by
  unfold lg_cmp
  by_cases h : lN a > lN b
  · rw [if_pos h]
    have := (pk_lLT hb ha).mp h
    exact ⟨fun q => absurd q (by decide), fun q => absurd q (by omega)⟩
  · rw [if_neg h]
    have h1 : ¬ b < a := fun q => h ((pk_lLT hb ha).mpr q)
    by_cases e : lN a = lN b
    · rw [if_pos e]
      have : ¬ a < b := fun q => absurd ((pk_lLT ha hb).mpr q) (by rw [e]; exact Int64.lt_irrefl)
      exact ⟨fun _ => by omega, fun _ => rfl⟩
    · rw [if_neg e]
      exact ⟨fun q => absurd q (by decide), fun q => absurd (congrArg lN q) e⟩
theorem lcN_ge {a b : Nat} (ha : a < 2 ^ 63) (hb : b < 2 ^ 63) : 0 ≤ lg_cmp (lN a) (lN b) ↔ b ≤ a := by
  unfold lg_cmp
  by_cases h : lN a > lN b
  · rw [if_pos h]
    have := (pk_lLT hb ha).mp h
    exact ⟨fun _ => by omega, fun _ => by decide⟩
  · rw [if_neg h]
    have h1 : ¬ b < a := fun q => h ((pk_lLT hb ha).mpr q)
    by_cases e : lN a = lN b
    · rw [if_pos e]
      have : ¬ a < b := fun q => absurd ((pk_lLT ha hb).mpr q) (by rw [e]; exact Int64.lt_irrefl)
      exact ⟨fun _ => by omega, fun _ => by decide⟩
    · rw [if_neg e]
      have : ¬ a = b := fun q => e (congrArg lN q)
      exact ⟨fun q => absurd q (by decide), fun q => absurd q (by omega)⟩
set_option maxRecDepth 20000 in
theorem x_skV {d n s : Nat} {h : Nat → aE} {u sg : Nat}  (hu : u ≤ 8000) (hsg : sg ≤ 1)   {Ψ : Option Value → aH → Prop} (kk : Ψ (some (.int (nI (skV u sg)))) (n, s, h)) : WO (mM (d + 1)) 138 [.int (nI u), .int (nI sg)] (n, s, h) Ψ := by
  refine WO.of (Nat.le_of_ble_eq_true rfl) ?_
  have FR_h : Fr h h (fun j => False) := Fr.rf
  show WX (lk tX11_sizeKind) (mM d) Ψ 0 [(0, .int (nI u)), (1, .int (nI sg))] [] (n, s, h)
  refine WX.s1 rfl rfl ?_
  refine WX.s1 rfl rfl ?_
  refine WX.icmp rfl (fun c_4 => ?_) (fun c_4 => ?_)
  · skip
    have n_4 : 256 ≤ u := (nI_leI (a := 256) (b := u) (by omega) (by omega)).mp c_4
    refine WX.s1 rfl rfl ?_
    refine WX.s1 rfl rfl ?_
    refine WX.icmp rfl (fun c_20 => absurd c_20 (fun zz_ => absurd ((nI_leI (a := 65792) (b := u) (by omega) (by omega)).mp zz_) (Nat.not_le.mpr (by omega)))) (fun c_20 => ?_)
    clear c_20
    refine WX.s1 rfl rfl ?_
    refine WX.s1 rfl rfl ?_
    have e : skV u sg = 1 := by unfold skV; rw [if_neg (by omega)]
    rw [e] at kk
    exact WX.ret1 rfl kk
  · skip
    have n_4 : u < 256 := Nat.lt_of_not_le (fun zz_ => c_4 ((nI_leI (a := 256) (b := u) (by omega) (by omega)).mpr zz_))
    refine WX.s1 rfl rfl ?_
    refine WX.if_ rfl (fun c_8 => ?_) (fun c_8 => ?_)
    · skip
      have n_8 : sg = 0 := (nI_eq (a := sg) (b := 0) (by omega) (by omega)).mp c_8
      refine WX.s1 rfl rfl ?_
      have e : skV u sg = 2 := by unfold skV; rw [if_pos n_4, if_pos n_8]
      rw [e] at kk
      exact WX.ret1 rfl kk
    · skip
      have n_8 : ¬ sg = 0 := fun zz_ => c_8 ((nI_eq (a := sg) (b := 0) (by omega) (by omega)).mpr zz_)
      refine WX.s1 rfl rfl ?_
      refine WX.s1 rfl rfl ?_
      have e : skV u sg = 0 := by unfold skV; rw [if_pos n_4, if_neg n_8]
      rw [e] at kk
      exact WX.ret1 rfl kk
set_option maxRecDepth 20000 in
theorem x_ikV {d n s : Nat} {h : Nat → aE} {id : Nat}  (hid : id < 2 ^ 32)   {Ψ : Option Value → aH → Prop} (kk : Ψ (some (.int (nI (ikV id)))) (n, s, h)) : WO (mM (d + 1)) 139 [.long (lN id)] (n, s, h) Ψ := by
  refine WO.of (Nat.le_of_ble_eq_true rfl) ?_
  have FR_h : Fr h h (fun j => False) := Fr.rf
  show WX (lk tX11_idKind) (mM d) Ψ 0 [(0, .long (lN id))] [] (n, s, h)
  refine WX.s1 rfl rfl ?_
  refine WX.s1 rfl rfl ?_
  refine WX.s1 (S' := [.int (lg_cmp (lN id) 0)]) rfl rfl ?_
  refine WX.if_ rfl (fun c_3 => ?_) (fun c_3 => ?_)
  · skip
    refine WX.s1 rfl rfl ?_
    refine WX.s1 rfl rfl ?_
    refine WX.s1 (S' := [.int (lg_cmp (lN id) 256)]) rfl rfl ?_
    refine WX.if_ rfl (fun c_13 => ?_) (fun c_13 => ?_)
    · skip
      refine WX.s1 rfl rfl ?_
      refine WX.s1 rfl rfl ?_
      refine WX.s1 (S' := [.int (lg_cmp (lN id) 65536)]) rfl rfl ?_
      refine WX.if_ rfl (fun c_23 => ?_) (fun c_23 => ?_)
      · skip
        refine WX.s1 rfl rfl ?_
        have q0 := lcN_eq (a := id) (b := 0) (by omega) (by decide)
        have q1 := lcN_ge (a := id) (b := 256) (by omega) (by decide)
        have q2 := lcN_ge (a := id) (b := 65536) (by omega) (by decide)
        have e : ikV id = 3 := by unfold ikV; rw [if_neg (mt (q0).mpr c_3), if_neg (by have := (q1).mp c_13; omega), if_neg (by have := (q2).mp c_23; omega)]
        rw [e] at kk
        exact WX.ret1 rfl kk
      · skip
        refine WX.s1 rfl rfl ?_
        refine WX.s1 rfl rfl ?_
        have q0 := lcN_eq (a := id) (b := 0) (by omega) (by decide)
        have q1 := lcN_ge (a := id) (b := 256) (by omega) (by decide)
        have q2 := lcN_ge (a := id) (b := 65536) (by omega) (by decide)
        have e : ikV id = 2 := by unfold ikV; rw [if_neg (mt (q0).mpr c_3), if_neg (by have := (q1).mp c_13; omega), if_pos (by have := mt (q2).mpr c_23; omega)]
        rw [e] at kk
        exact WX.ret1 rfl kk
    · skip
      refine WX.s1 rfl rfl ?_
      have q0 := lcN_eq (a := id) (b := 0) (by omega) (by decide)
      have q1 := lcN_ge (a := id) (b := 256) (by omega) (by decide)
      have q2 := lcN_ge (a := id) (b := 65536) (by omega) (by decide)
      have e : ikV id = 1 := by unfold ikV; rw [if_neg (mt (q0).mpr c_3), if_pos (by have := mt (q1).mpr c_13; omega)]
      rw [e] at kk
      exact WX.ret1 rfl kk
  · skip
    refine WX.s1 rfl rfl ?_
    have q0 := lcN_eq (a := id) (b := 0) (by omega) (by decide)
    have q1 := lcN_ge (a := id) (b := 256) (by omega) (by decide)
    have q2 := lcN_ge (a := id) (b := 65536) (by omega) (by decide)
    have e : ikV id = 0 := by unfold ikV; rw [if_pos ((q0).mp (Classical.not_not.mp c_3))]
    rw [e] at kk
    exact WX.ret1 rfl kk
set_option maxRecDepth 20000 in
theorem x_head {d n s : Nat} {h : Nat → aE} {ou ne sta dra id way least fl e : Nat} {l : List Nat} {bb : Option (List Nat)} (hn : 190 ≤ n) (hne : ne = 3 ∨ ne = 5) (hle : (l).length ≤ 8000) (hid : id < 2 ^ 32) (hfl : fl < 16) (he : e ≤ 11) (F_h_0 : h 0 = .inr (10, [.ref 1, .ref ou, .ref ne, .ref 7, .long (lN id), .ref sta, .ref dra, .ref 67, .ref 81, .ref 189, .int (nI way), .int (nI least)])) (F_h_1 : h 1 = .inr (7, [.ref 2, .int (nI (l).length), .int 0, .long 0, .int 0])) (P_h_nx : RowIs h ne 12000 bb 0 0) {Ψ : Option Value → aH → Prop} (kk : ∀ h', Fr h h' (fun j => j = ne ∨ j = ne + 1) → RowIs h' ne 12000 (bputs 12000 bb (hdF fl e id (l).length)) 0 0 → Ψ none (n, s, h')) : WO (mM (d + 3)) 137 [.ref 0, .int (nI fl), .int (nI e)] (n, s, h) Ψ := by
  refine WO.of (Nat.le_of_ble_eq_true rfl) ?_
  have FR_h : Fr h h (fun j => j = ne ∨ j = ne + 1) := Fr.rf
  have hsk := sk_le fl (l).length
  have hik := ik_le fl id
  have hsg := sg_le fl
  have hszl := sz_le fl
  show WX (lk tX11_putHead) (mM (d + 2)) Ψ 0 [(0, .ref 0), (1, .int (nI fl)), (2, .int (nI e))] [] (n, s, h)
  have t11 : ∀ (sg : Nat), sg = sgN fl → WX (lk tX11_putHead) (mM (d + 2)) Ψ 11 [(0, .ref 0), (1, .int (nI fl)), (2, .int (nI e))] [.int (nI sg)] (n, s, h) := by
    intro sg esg
    refine WX.s1 (L' := [(0, .ref 0), (1, .int (nI fl)), (2, .int (nI e)), (3, .int (nI sg))]) rfl rfl ?_
    have t27 : ∀ (sz : Nat), sz = szN fl → WX (lk tX11_putHead) (mM (d + 2)) Ψ 27 [(0, .ref 0), (1, .int (nI fl)), (2, .int (nI e)), (3, .int (nI sg))] [.int (nI sz)] (n, s, h) := by
      intro sz esz
      refine WX.s1 (L' := [(0, .ref 0), (1, .int (nI fl)), (2, .int (nI e)), (3, .int (nI sg)), (4, .int (nI sz))]) rfl rfl ?_
      have t49 : ∀ (sk : Nat), sk = skN fl (l).length → WX (lk tX11_putHead) (mM (d + 2)) Ψ 49 [(0, .ref 0), (1, .int (nI fl)), (2, .int (nI e)), (3, .int (nI sg)), (4, .int (nI sz))] [.int (nI sk)] (n, s, h) := by
        intro sk esk
        refine WX.s1 (L' := [(0, .ref 0), (1, .int (nI fl)), (2, .int (nI e)), (3, .int (nI sg)), (4, .int (nI sz)), (5, .int (nI sk))]) rfl rfl ?_
        have t69 : ∀ (ik : Nat), ik = ikN fl id → WX (lk tX11_putHead) (mM (d + 2)) Ψ 69 [(0, .ref 0), (1, .int (nI fl)), (2, .int (nI e)), (3, .int (nI sg)), (4, .int (nI sz)), (5, .int (nI sk))] [.int (nI ik)] (n, s, h) := by
          intro ik eik
          refine WX.s1 (L' := [(0, .ref 0), (1, .int (nI fl)), (2, .int (nI e)), (3, .int (nI sg)), (4, .int (nI sz)), (5, .int (nI sk)), (6, .int (nI ik))]) rfl rfl ?_
          have hsg1 : sg ≤ 1 := by omega
          have hsk1 : sk ≤ 2 := by omega
          have hik1 : ik ≤ 3 := by omega
          refine WX.s1 rfl rfl ?_
          refine WX.get1 (fs := [.ref 1, .ref ou, .ref ne, .ref 7, .long (lN id), .ref sta, .ref dra, .ref 67, .ref 81, .ref 189, .int (nI way), .int (nI least)]) rfl (ltN hn (by decide)) (F_h_0) rfl ?_
          refine WX.s1 rfl rfl ?_
          refine WX.s1 rfl rfl ?_
          refine WX.callC (vs := [.ref ne, .long 4247762216, .int 4]) rfl rfl rfl (Nat.le_of_ble_eq_true rfl) ((P_h_nx).rcv ((show ne < n by omega))) ?_
          refine w_putNumber (d := d) (x := lN 4247762216) (m := 4) (by omega) P_h_nx (by decide) (by decide) (fun h79 fr79 P_h79_nx0 => ?_)
          have F_h79_0 : h79 0 = .inr (10, [.ref 1, .ref ou, .ref ne, .ref 7, .long (lN id), .ref sta, .ref dra, .ref 67, .ref 81, .ref 189, .int (nI way), .int (nI least)]) := (fr79 _ (by omega)).trans F_h_0
          have F_h79_1 : h79 1 = .inr (7, [.ref 2, .int (nI (l).length), .int 0, .long 0, .int 0]) := (fr79 _ (by omega)).trans F_h_1
          have FR_h79 : Fr h h79 (fun j => j = ne ∨ j = ne + 1) := (FR_h).zsub fr79 (fun j hj => hj)
          show WX _ _ _ 82 [(0, .ref 0), (1, .int (nI fl)), (2, .int (nI e)), (3, .int (nI sg)), (4, .int (nI sz)), (5, .int (nI sk)), (6, .int (nI ik))] [] (n, s, h79)
          have P_h79_nx : RowIs h79 ne 12000 (bputs 12000 bb (leBy 4247762216 4)) 0 0 := by rw [leL_lN (by decide)] at P_h79_nx0; exact P_h79_nx0
          refine WX.s1 rfl rfl ?_
          refine WX.get1 (fs := [.ref 1, .ref ou, .ref ne, .ref 7, .long (lN id), .ref sta, .ref dra, .ref 67, .ref 81, .ref 189, .int (nI way), .int (nI least)]) rfl (ltN hn (by decide)) (F_h79_0) rfl ?_
          refine WX.s1 rfl rfl ?_
          refine WX.s1 rfl rfl ?_
          refine WX.s1 (S' := [.int (64 * (nI sk)), .ref ne]) rfl rfl ?_
          rw [show (64 * (nI sk)) = nI (64 * sk) from (Int32.ofNat_mul 64 sk).symm]
          have t101 : ∀ (x : Nat), x = 32 * sg → WX (lk tX11_putHead) (mM (d + 2)) Ψ 101 [(0, .ref 0), (1, .int (nI fl)), (2, .int (nI e)), (3, .int (nI sg)), (4, .int (nI sz)), (5, .int (nI sk)), (6, .int (nI ik))] [.int (nI x), .int (nI (64 * sk)), .ref ne] (n, s, h79) := by
            intro x ex
            refine WX.s1 (S' := [.int ((nI (64 * sk)) + (nI x)), .ref ne]) rfl rfl ?_
            rw [show ((nI (64 * sk)) + (nI x)) = nI (64 * sk + x) from nI_add (64 * sk) x]
            have t113 : ∀ (y : Nat), y = 4 * (fl % 2) → WX (lk tX11_putHead) (mM (d + 2)) Ψ 113 [(0, .ref 0), (1, .int (nI fl)), (2, .int (nI e)), (3, .int (nI sg)), (4, .int (nI sz)), (5, .int (nI sk)), (6, .int (nI ik))] [.int (nI y), .int (nI (64 * sk + x)), .ref ne] (n, s, h79) := by
              intro y ey
              refine WX.s1 (S' := [.int ((nI (64 * sk + x)) + (nI y)), .ref ne]) rfl rfl ?_
              rw [show ((nI (64 * sk + x)) + (nI y)) = nI (64 * sk + x + y) from nI_add (64 * sk + x) y]
              refine WX.s1 rfl rfl ?_
              refine WX.s1 (S' := [.int ((nI (64 * sk + x + y)) + (nI ik)), .ref ne]) rfl rfl ?_
              rw [show ((nI (64 * sk + x + y)) + (nI ik)) = nI (64 * sk + x + y + ik) from nI_add (64 * sk + x + y) ik]
              refine WX.callC (vs := [.ref ne, .int (nI (64 * sk + x + y + ik))]) rfl rfl rfl (Nat.le_of_ble_eq_true rfl) ((P_h79_nx).rcv ((show ne < n by omega))) ?_
              refine w_putB (d := d + 1) (by omega) P_h79_nx (by decide) (fun h117 fr117 P_h117_nx0 => ?_)
              have F_h117_0 : h117 0 = .inr (10, [.ref 1, .ref ou, .ref ne, .ref 7, .long (lN id), .ref sta, .ref dra, .ref 67, .ref 81, .ref 189, .int (nI way), .int (nI least)]) := (fr117 _ (by omega)).trans F_h79_0
              have F_h117_1 : h117 1 = .inr (7, [.ref 2, .int (nI (l).length), .int 0, .long 0, .int 0]) := (fr117 _ (by omega)).trans F_h79_1
              have FR_h117 : Fr h h117 (fun j => j = ne ∨ j = ne + 1) := (FR_h79).zsub fr117 (fun j hj => hj)
              show WX _ _ _ 120 [(0, .ref 0), (1, .int (nI fl)), (2, .int (nI e)), (3, .int (nI sg)), (4, .int (nI sz)), (5, .int (nI sk)), (6, .int (nI ik))] [] (n, s, h117)
              have ehd : hd1 fl id (l).length = 64 * sk + x + y + ik := by unfold hd1; omega
              have P_h117_nx : RowIs h117 ne 12000 (bputs 12000 bb (leBy 4247762216 4 ++ [hd1 fl id (l).length])) 0 0 := by rw [bputs_app]; rw [byt_nI, ← ehd, Nat.mod_eq_of_lt (by omega)] at P_h117_nx0; exact P_h117_nx0
              have t135 : ∀ hA : Nat → aE, Fr h hA (fun j => j = ne ∨ j = ne + 1) → RowIs hA ne 12000 (bputs 12000 bb (leBy 4247762216 4 ++ ([hd1 fl id (l).length] ++ hdE fl e))) 0 0 → WX (lk tX11_putHead) (mM (d + 2)) Ψ 135 [(0, .ref 0), (1, .int (nI fl)), (2, .int (nI e)), (3, .int (nI sg)), (4, .int (nI sz)), (5, .int (nI sk)), (6, .int (nI ik))] [] (n, s, hA) := by
                intro hA FR_hA P_hA_nx
                have F_hA_0 : hA 0 = .inr (10, [.ref 1, .ref ou, .ref ne, .ref 7, .long (lN id), .ref sta, .ref dra, .ref 67, .ref 81, .ref 189, .int (nI way), .int (nI least)]) := (FR_hA _ (by omega)).trans F_h_0
                have F_hA_1 : hA 1 = .inr (7, [.ref 2, .int (nI (l).length), .int 0, .long 0, .int 0]) := (FR_hA _ (by omega)).trans F_h_1
                refine WX.s1 rfl rfl ?_
                refine WX.get1 (fs := [.ref 1, .ref ou, .ref ne, .ref 7, .long (lN id), .ref sta, .ref dra, .ref 67, .ref 81, .ref 189, .int (nI way), .int (nI least)]) rfl (ltN hn (by decide)) (F_hA_0) rfl ?_
                refine WX.s1 rfl rfl ?_
                refine WX.get1 (fs := [.ref 1, .ref ou, .ref ne, .ref 7, .long (lN id), .ref sta, .ref dra, .ref 67, .ref 81, .ref 189, .int (nI way), .int (nI least)]) rfl (ltN hn (by decide)) (F_hA_0) rfl ?_
                have t155 : ∀ (kb : Nat), kb = ikB (ikN fl id) → WX (lk tX11_putHead) (mM (d + 2)) Ψ 155 [(0, .ref 0), (1, .int (nI fl)), (2, .int (nI e)), (3, .int (nI sg)), (4, .int (nI sz)), (5, .int (nI sk)), (6, .int (nI ik))] [.int (nI kb), .long (lN id), .ref ne] (n, s, hA) := by
                  intro kb ekb
                  have hkb : kb ≤ 4 := by rw [ekb]; unfold ikB; split <;> omega
                  refine WX.callC (vs := [.ref ne, .long (lN id), .int (nI kb)]) rfl rfl rfl (Nat.le_of_ble_eq_true rfl) ((P_hA_nx).rcv ((show ne < n by omega))) ?_
                  refine w_putNumber (d := d) (x := lN id) (m := kb) (by omega) P_hA_nx (by decide) (by omega) (fun h155 fr155 P_h155_nx0 => ?_)
                  have F_h155_0 : h155 0 = .inr (10, [.ref 1, .ref ou, .ref ne, .ref 7, .long (lN id), .ref sta, .ref dra, .ref 67, .ref 81, .ref 189, .int (nI way), .int (nI least)]) := (fr155 _ (by omega)).trans F_hA_0
                  have F_h155_1 : h155 1 = .inr (7, [.ref 2, .int (nI (l).length), .int 0, .long 0, .int 0]) := (fr155 _ (by omega)).trans F_hA_1
                  have FR_h155 : Fr h h155 (fun j => j = ne ∨ j = ne + 1) := (FR_hA).zsub fr155 (fun j hj => hj)
                  show WX _ _ _ 158 [(0, .ref 0), (1, .int (nI fl)), (2, .int (nI e)), (3, .int (nI sg)), (4, .int (nI sz)), (5, .int (nI sk)), (6, .int (nI ik))] [] (n, s, h155)
                  have P_h155_nx : RowIs h155 ne 12000 (bputs 12000 bb (leBy 4247762216 4 ++ ([hd1 fl id (l).length] ++ (hdE fl e ++ leBy id (ikB (ikN fl id)))))) 0 0 := by rw [leL_lN (by omega), ekb, ← bputs_app] at P_h155_nx0; simp only [List.append_assoc] at P_h155_nx0; exact P_h155_nx0
                  refine WX.s1 rfl rfl ?_
                  refine WX.if_ rfl (fun c_160 => ?_) (fun c_160 => ?_)
                  · skip
                    have n_160 : sz = 0 := (nI_eq (a := sz) (b := 0) (by omega) (by omega)).mp c_160
                    refine WX.ret0 rfl (kk h155 FR_h155 ?_)
                    unfold hdF hdZ
                    rw [if_neg (by omega), List.append_nil]
                    exact P_h155_nx
                  · skip
                    have n_160 : ¬ sz = 0 := fun zz_ => c_160 ((nI_eq (a := sz) (b := 0) (by omega) (by omega)).mpr zz_)
                    refine WX.s1 rfl rfl ?_
                    refine WX.get1 (fs := [.ref 1, .ref ou, .ref ne, .ref 7, .long (lN id), .ref sta, .ref dra, .ref 67, .ref 81, .ref 189, .int (nI way), .int (nI least)]) rfl (ltN hn (by decide)) (F_h155_0) rfl ?_
                    refine WX.s1 rfl rfl ?_
                    have t196 : ∀ (v : Nat), v = (if skN fl (l).length = 1 then (l).length - 256 else (l).length) → WX (lk tX11_putHead) (mM (d + 2)) Ψ 196 [(0, .ref 0), (1, .int (nI fl)), (2, .int (nI e)), (3, .int (nI sg)), (4, .int (nI sz)), (5, .int (nI sk)), (6, .int (nI ik))] [.long (lN v), .ref ne] (n, s, h155) := by
                      intro v ev
                      have hvb : v ≤ 8000 := by rw [ev]; split <;> omega
                      refine WX.s1 rfl rfl ?_
                      refine WX.s1 rfl rfl ?_
                      refine WX.s1 (S' := [.int (1 <<< ((nI sk) &&& 31)), .long (lN v), .ref ne]) rfl rfl ?_
                      rw [sk_sh sk hsk1]
                      refine WX.callC (vs := [.ref ne, .long (lN v), .int (nI (2 ^ sk))]) rfl rfl rfl (Nat.le_of_ble_eq_true rfl) ((P_h155_nx).rcv ((show ne < n by omega))) ?_
                      refine w_putNumber (d := d) (x := lN v) (m := 2 ^ sk) (by omega) P_h155_nx (by decide) (Nat.le_trans (Nat.pow_le_pow_right (by decide) hsk1) (by decide)) (fun h200 fr200 P_h200_nx0 => ?_)
                      have F_h200_0 : h200 0 = .inr (10, [.ref 1, .ref ou, .ref ne, .ref 7, .long (lN id), .ref sta, .ref dra, .ref 67, .ref 81, .ref 189, .int (nI way), .int (nI least)]) := (fr200 _ (by omega)).trans F_h155_0
                      have F_h200_1 : h200 1 = .inr (7, [.ref 2, .int (nI (l).length), .int 0, .long 0, .int 0]) := (fr200 _ (by omega)).trans F_h155_1
                      have FR_h200 : Fr h h200 (fun j => j = ne ∨ j = ne + 1) := (FR_h155).zsub fr200 (fun j hj => hj)
                      show WX _ _ _ 203 [(0, .ref 0), (1, .int (nI fl)), (2, .int (nI e)), (3, .int (nI sg)), (4, .int (nI sz)), (5, .int (nI sk)), (6, .int (nI ik))] [] (n, s, h200)
                      refine WX.ret0 rfl (kk h200 FR_h200 ?_)
                      unfold hdF hdZ
                      rw [if_pos (by omega), ← ev, ← esk]
                      rw [leL_lN (by omega), ← bputs_app] at P_h200_nx0
                      simp only [List.append_assoc] at P_h200_nx0
                      exact P_h200_nx0
                    refine WX.s1 rfl rfl ?_
                    refine WX.icmp rfl (fun c_170 => ?_) (fun c_170 => ?_)
                    · skip
                      have n_170 : ¬ sk = 1 := fun zz_ => c_170 ((nI_eq (a := sk) (b := 1) (by omega) (by omega)).mpr zz_)
                      refine WX.s1 rfl rfl ?_
                      refine WX.get1 (fs := [.ref 1, .ref ou, .ref ne, .ref 7, .long (lN id), .ref sta, .ref dra, .ref 67, .ref 81, .ref 189, .int (nI way), .int (nI least)]) rfl (ltN hn (by decide)) (F_h155_0) rfl ?_
                      refine WX.get1 (fs := [.ref 2, .int (nI (l).length), .int 0, .long 0, .int 0]) rfl (ltN hn (by decide)) (F_h155_1) rfl ?_
                      refine WX.s1 (S' := [.long ((nI (l).length).toInt64), .ref ne]) rfl rfl ?_
                      rw [nI_l (by omega)]
                      exact t196 _ (by rw [if_neg (by omega)])
                    · skip
                      have n_170 : sk = 1 := (nI_eq (a := sk) (b := 1) (by omega) (by omega)).mp (Classical.not_not.mp c_170)
                      refine WX.s1 rfl rfl ?_
                      refine WX.get1 (fs := [.ref 1, .ref ou, .ref ne, .ref 7, .long (lN id), .ref sta, .ref dra, .ref 67, .ref 81, .ref 189, .int (nI way), .int (nI least)]) rfl (ltN hn (by decide)) (F_h155_0) rfl ?_
                      refine WX.get1 (fs := [.ref 2, .int (nI (l).length), .int 0, .long 0, .int 0]) rfl (ltN hn (by decide)) (F_h155_1) rfl ?_
                      refine WX.s1 rfl rfl ?_
                      refine WX.s1 (S' := [.int ((nI (l).length) - 256), .ref ne]) rfl rfl ?_
                      rw [show nI (l).length - 256 = nI ((l).length - 256) from nI_subN (a := (l).length) (b := 256) (by have e1 : skV (l).length sg = 1 := by { have := esk; unfold skN at this; rw [if_neg (by omega), ← esg] at this; omega }; unfold skV at e1; split at e1 <;> first | omega | (split at e1 <;> omega))]
                      refine WX.s1 (S' := [.long ((nI ((l).length - 256)).toInt64), .ref ne]) rfl rfl ?_
                      rw [nI_l (by omega)]
                      refine WX.s1 rfl rfl ?_
                      exact t196 _ (by rw [if_pos (by omega)])
                refine WX.s1 rfl rfl ?_
                refine WX.s1 rfl rfl ?_
                refine WX.icmp rfl (fun c_146 => ?_) (fun c_146 => ?_)
                · skip
                  have n_146 : ¬ ik = 3 := fun zz_ => c_146 ((nI_eq (a := ik) (b := 3) (by omega) (by omega)).mpr zz_)
                  refine WX.s1 rfl rfl ?_
                  exact t155 _ (by unfold ikB; rw [if_neg (by omega)]; omega)
                · skip
                  have n_146 : ik = 3 := (nI_eq (a := ik) (b := 3) (by omega) (by omega)).mp (Classical.not_not.mp c_146)
                  refine WX.s1 rfl rfl ?_
                  refine WX.s1 rfl rfl ?_
                  exact t155 4 (by unfold ikB; rw [if_pos (by omega)])
              refine WX.s1 rfl rfl ?_
              refine WX.if_ rfl (fun c_121 => ?_) (fun c_121 => ?_)
              · skip
                have n_121 : ¬ sg = 0 := fun zz_ => c_121 ((nI_eq (a := sg) (b := 0) (by omega) (by omega)).mpr zz_)
                exact t135 h117 FR_h117 (by unfold hdE; rw [if_pos (by omega), List.append_nil]; exact P_h117_nx)
              · skip
                have n_121 : sg = 0 := (nI_eq (a := sg) (b := 0) (by omega) (by omega)).mp (Classical.not_not.mp c_121)
                refine WX.s1 rfl rfl ?_
                refine WX.get1 (fs := [.ref 1, .ref ou, .ref ne, .ref 7, .long (lN id), .ref sta, .ref dra, .ref 67, .ref 81, .ref 189, .int (nI way), .int (nI least)]) rfl (ltN hn (by decide)) (F_h117_0) rfl ?_
                refine WX.s1 rfl rfl ?_
                refine WX.s1 rfl rfl ?_
                refine WX.s1 (S' := [.int (8 * (nI e)), .ref ne]) rfl rfl ?_
                rw [show (8 * (nI e)) = nI (8 * e) from (Int32.ofNat_mul 8 e).symm]
                refine WX.callC (vs := [.ref ne, .int (nI (8 * e))]) rfl rfl rfl (Nat.le_of_ble_eq_true rfl) ((P_h117_nx).rcv ((show ne < n by omega))) ?_
                refine w_putB (d := d + 1) (by omega) P_h117_nx (by decide) (fun h132 fr132 P_h132_nx0 => ?_)
                have F_h132_0 : h132 0 = .inr (10, [.ref 1, .ref ou, .ref ne, .ref 7, .long (lN id), .ref sta, .ref dra, .ref 67, .ref 81, .ref 189, .int (nI way), .int (nI least)]) := (fr132 _ (by omega)).trans F_h117_0
                have F_h132_1 : h132 1 = .inr (7, [.ref 2, .int (nI (l).length), .int 0, .long 0, .int 0]) := (fr132 _ (by omega)).trans F_h117_1
                have FR_h132 : Fr h h132 (fun j => j = ne ∨ j = ne + 1) := (FR_h117).zsub fr132 (fun j hj => hj)
                show WX _ _ _ 135 [(0, .ref 0), (1, .int (nI fl)), (2, .int (nI e)), (3, .int (nI sg)), (4, .int (nI sz)), (5, .int (nI sk)), (6, .int (nI ik))] [] (n, s, h132)
                rw [byt_nI, Nat.mod_eq_of_lt (by omega)] at P_h132_nx0
                exact t135 h132 FR_h132 (by unfold hdE; rw [if_neg (by omega)]; rw [← List.append_assoc, bputs_app]; exact P_h132_nx0)
            refine WX.s1 rfl rfl ?_
            refine WX.s1 rfl rfl ?_
            refine WX.s1 (S' := [.int ((nI fl) &&& 1), .int (nI (64 * sk + x)), .ref ne]) rfl rfl ?_
            refine WX.if_ rfl (fun c_105 => ?_) (fun c_105 => ?_)
            · skip
              refine WX.s1 rfl rfl ?_
              exact t113 0 (by have q := fl_1 fl hfl; have := (q).mp c_105; omega)
            · skip
              refine WX.s1 rfl rfl ?_
              refine WX.s1 rfl rfl ?_
              exact t113 4 (by have q := fl_1 fl hfl; have := mt (q).mpr c_105; omega)
          refine WX.s1 rfl rfl ?_
          refine WX.if_ rfl (fun c_92 => ?_) (fun c_92 => ?_)
          · skip
            have n_92 : sg = 0 := (nI_eq (a := sg) (b := 0) (by omega) (by omega)).mp c_92
            refine WX.s1 rfl rfl ?_
            exact t101 0 (by omega)
          · skip
            have n_92 : ¬ sg = 0 := fun zz_ => c_92 ((nI_eq (a := sg) (b := 0) (by omega) (by omega)).mpr zz_)
            refine WX.s1 rfl rfl ?_
            refine WX.s1 rfl rfl ?_
            exact t101 32 (by omega)
        refine WX.s1 rfl rfl ?_
        refine WX.s1 rfl rfl ?_
        refine WX.s1 (S' := [.int ((nI fl) &&& 8)]) rfl rfl ?_
        refine WX.if_ rfl (fun c_55 => ?_) (fun c_55 => ?_)
        · skip
          refine WX.s1 rfl rfl ?_
          exact t69 0 (by unfold ikN; rw [if_neg (by have q := fl_8 fl hfl; have := (q).mp c_55; omega)])
        · skip
          refine WX.s1 rfl rfl ?_
          refine WX.get1 (fs := [.ref 1, .ref ou, .ref ne, .ref 7, .long (lN id), .ref sta, .ref dra, .ref 67, .ref 81, .ref 189, .int (nI way), .int (nI least)]) rfl (ltN hn (by decide)) (F_h_0) rfl ?_
          refine WX.callC (vs := [.long (lN id)]) rfl rfl rfl (Nat.le_of_ble_eq_true rfl) rfl ?_
          refine x_ikV (d := d + 1) hid ?_
          show WX _ _ _ 65 [(0, .ref 0), (1, .int (nI fl)), (2, .int (nI e)), (3, .int (nI sg)), (4, .int (nI sz)), (5, .int (nI sk))] [.int (nI (ikV id))] (n, s, h)
          refine WX.s1 rfl rfl ?_
          exact t69 _ (by unfold ikN; rw [if_pos (by have q := fl_8 fl hfl; have := mt (q).mpr c_55; omega)])
      refine WX.s1 rfl rfl ?_
      refine WX.if_ rfl (fun c_31 => ?_) (fun c_31 => ?_)
      · skip
        have n_31 : sz = 0 := (nI_eq (a := sz) (b := 0) (by omega) (by omega)).mp c_31
        refine WX.s1 rfl rfl ?_
        exact t49 _ (by unfold skN; rw [if_pos (by omega)])
      · skip
        have n_31 : ¬ sz = 0 := fun zz_ => c_31 ((nI_eq (a := sz) (b := 0) (by omega) (by omega)).mpr zz_)
        refine WX.s1 rfl rfl ?_
        refine WX.get1 (fs := [.ref 1, .ref ou, .ref ne, .ref 7, .long (lN id), .ref sta, .ref dra, .ref 67, .ref 81, .ref 189, .int (nI way), .int (nI least)]) rfl (ltN hn (by decide)) (F_h_0) rfl ?_
        refine WX.get1 (fs := [.ref 2, .int (nI (l).length), .int 0, .long 0, .int 0]) rfl (ltN hn (by decide)) (F_h_1) rfl ?_
        refine WX.s1 rfl rfl ?_
        refine WX.callC (vs := [.int (nI (l).length), .int (nI sg)]) rfl rfl rfl (Nat.le_of_ble_eq_true rfl) rfl ?_
        refine x_skV (d := d + 1) hle (by omega) ?_
        show WX _ _ _ 45 [(0, .ref 0), (1, .int (nI fl)), (2, .int (nI e)), (3, .int (nI sg)), (4, .int (nI sz))] [.int (nI (skV (l).length sg))] (n, s, h)
        refine WX.s1 rfl rfl ?_
        exact t49 _ (by unfold skN; rw [if_neg (by omega)]; rw [esg])
    refine WX.s1 rfl rfl ?_
    refine WX.if_ rfl (fun c_13 => ?_) (fun c_13 => ?_)
    · skip
      have n_13 : ¬ sg = 0 := fun zz_ => c_13 ((nI_eq (a := sg) (b := 0) (by omega) (by omega)).mpr zz_)
      refine WX.s1 rfl rfl ?_
      refine WX.s1 rfl rfl ?_
      exact t27 1 (by unfold szN; rw [if_pos (by omega)])
    · skip
      have n_13 : sg = 0 := (nI_eq (a := sg) (b := 0) (by omega) (by omega)).mp (Classical.not_not.mp c_13)
      refine WX.s1 rfl rfl ?_
      refine WX.s1 rfl rfl ?_
      refine WX.s1 (S' := [.int ((nI fl) &&& 2)]) rfl rfl ?_
      refine WX.if_ rfl (fun c_19 => ?_) (fun c_19 => ?_)
      · skip
        refine WX.s1 rfl rfl ?_
        exact t27 0 (by unfold szN; rw [if_neg (by omega)]; have q := fl_2 fl hfl; have := (q).mp c_19; omega)
      · skip
        refine WX.s1 rfl rfl ?_
        refine WX.s1 rfl rfl ?_
        exact t27 1 (by unfold szN; rw [if_neg (by omega)]; have q := fl_2 fl hfl; have := mt (q).mpr c_19; omega)
  refine WX.s1 rfl rfl ?_
  refine WX.s1 rfl rfl ?_
  refine WX.s1 (S' := [.int ((nI fl) &&& 4)]) rfl rfl ?_
  refine WX.if_ rfl (fun c_3 => ?_) (fun c_3 => ?_)
  · skip
    refine WX.s1 rfl rfl ?_
    exact t11 0 (by unfold sgN; have q := fl_4 fl hfl; have := (q).mp c_3; omega)
  · skip
    refine WX.s1 rfl rfl ?_
    refine WX.s1 rfl rfl ?_
    exact t11 1 (by unfold sgN; have q := fl_4 fl hfl; have := mt (q).mpr c_3; omega)
