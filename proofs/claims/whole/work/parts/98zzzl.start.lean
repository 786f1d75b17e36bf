/-! both objects new: what stands; the law's run -/
theorem Cells.at_ {h : Nat → aE} {e : aE} : ∀ (l : List aE) (k i : Nat), Cells h k l → l[i]? = some e → h (k + i) = e := by
  intro l
  induction l with
  | nil => intro k i _ q; simp at q
  | cons a l ih =>
    intro k i C q
    cases i with
    | zero =>
      have q2 : a = e := by simpa using q
      rw [← q2]
      exact C.1
    | succ i =>
      have q2 : l[i]? = some e := by simpa using q
      have := ih (k + 1) i C.2 q2
      rw [show k + (i + 1) = k + 1 + i by omega]
      exact this
theorem row_new {h : Nat → aE} {k N : Nat} {g : Nat → Int32} (a : h k = .inr (7, [.ref (k + 1), .int 0, .int 0, .long 0, .int 0])) (b : h (k + 1) = .inl (0, N, .inl g)) : RowIs h k N (some []) 0 0 := ⟨g, 0, 0, ⟨a, b⟩, Nat.zero_le _, rfl, rfl, fun i hi => absurd hi (Nat.not_lt_zero i)⟩
theorem rowe_new {h : Nat → aE} {k N : Nat} {g : Nat → Int32} (a : h k = .inr (7, [.ref (k + 1), .int 0, .int 0, .long 0, .int 0])) (b : h (k + 1) = .inl (0, N, .inl g)) : RowE h k N := ⟨_, _, _, row_new a b⟩
theorem co_new {h : Nat → aE} {k : Nat} {x y z : Nat → Int32} (a : h k = .inr (0, [.ref (k + 1), .ref (k + 2), .ref (k + 3), .int 0, .int 0])) (b : h (k + 1) = .inl (1, 256, .inl x)) (c : h (k + 2) = .inl (1, 256, .inl y)) (e : h (k + 3) = .inl (1, 13, .inl z)) : CoN h k := ⟨0, x, y, z, a, b, c, e⟩
theorem cox_new {h : Nat → aE} {k : Nat} {x y z : Nat → Int32} (a : h k = .inr (0, [.ref (k + 1), .ref (k + 2), .ref (k + 3), .int 0, .int 0])) (b : h (k + 1) = .inl (1, 256, .inl x)) (c : h (k + 2) = .inl (1, 256, .inl y)) (e : h (k + 3) = .inl (1, 13, .inl z)) : CoX h k := ⟨0, 0, x, y, z, a, b, c, e⟩
theorem sh_new {h : Nat → aE} {k l M : Nat} {x1 x2 x3 x4 x5 x6 : Nat → Int32} (a : h k = .inr (8, [.int (nI l), .ref (k + 1), .ref (k + 2), .ref (k + 3), .ref (k + 4), .ref (k + 5), .ref (k + 6), .int 0, .int 0])) (a1 : h (k + 1) = .inl (1, l + 1, .inl x1)) (a2 : h (k + 2) = .inl (1, l + 1, .inl x2)) (a3 : h (k + 3) = .inl (1, l + 1, .inl x3)) (a4 : h (k + 4) = .inl (1, l + 1, .inl x4)) (a5 : h (k + 5) = .inl (1, M, .inl x5)) (a6 : h (k + 6) = .inl (1, M, .inl x6)) : ShN h k l M := ⟨0, x1, x2, x3, x4, x5, x6, a, a1, a2, a3, a4, a5, a6⟩
theorem shx_new {h : Nat → aE} {k l M : Nat} {x1 x2 x3 x4 x5 x6 : Nat → Int32} (a : h k = .inr (8, [.int (nI l), .ref (k + 1), .ref (k + 2), .ref (k + 3), .ref (k + 4), .ref (k + 5), .ref (k + 6), .int 0, .int 0])) (a1 : h (k + 1) = .inl (1, l + 1, .inl x1)) (a2 : h (k + 2) = .inl (1, l + 1, .inl x2)) (a3 : h (k + 3) = .inl (1, l + 1, .inl x3)) (a4 : h (k + 4) = .inl (1, l + 1, .inl x4)) (a5 : h (k + 5) = .inl (1, M, .inl x5)) (a6 : h (k + 6) = .inl (1, M, .inl x6)) : ShX h k l M := ⟨0, 0, x1, x2, x3, x4, x5, x6, a, a1, a2, a3, a4, a5, a6⟩
theorem kns_of {N l L j : Nat} {f : Nat → Int32} (h : (List.range (l + 1)).all (fun i => decide ((if i < N then f i else 0) = qI (kU j i)) && decide (kU j i ≤ 100000)) = true) (h2 : mSum (kU j) (l + 1) = 2 ^ L) (h5 : 5 ≤ L) : KnS N f (kU j) l L := by
  refine ⟨fun i hi => ?_, h2, h5⟩
  have q := List.all_eq_true.mp h i (List.mem_range.mpr (by omega))
  rw [Bool.and_eq_true, decide_eq_true_eq, decide_eq_true_eq] at q
  exact q
theorem kns0 (xs : Nat → Int32) : KnS 36 (sVal xs 0) (kU 0) 35 6 := kns_of (f := fun i => (sTab.getD 0 []).getD i 0) (by decide +kernel) (by decide +kernel) (by decide)
theorem kns1 (xs : Nat → Int32) : KnS 29 (sVal xs 1) (kU 1) 31 5 := kns_of (f := fun i => (sTab.getD 1 []).getD i 0) (by decide +kernel) (by decide +kernel) (by decide)
theorem kns2 (xs : Nat → Int32) : KnS 53 (sVal xs 2) (kU 2) 52 6 := kns_of (f := fun i => (sTab.getD 2 []).getD i 0) (by decide +kernel) (by decide +kernel) (by decide)
def V0 : VS := (0, 2, 3, [], [], [], stN, fun _ => 0)
theorem V0_ok : VOk V0 := ⟨by decide, by decide, by decide, by decide, stN_ok⟩
theorem new_RX : RX mI0 (fun _ _ => 0) V0 := by
  refine ⟨⟨by decide, fun i hi => absurd hi (Nat.not_lt_zero i)⟩, ⟨by decide, fun i hi => absurd hi (Nat.not_lt_zero i)⟩, by decide, by decide, ⟨by decide, fun i hi => absurd hi (Nat.not_lt_zero i)⟩, by decide, Or.inl ⟨by decide, rfl⟩, ⟨0, 0, by decide, by decide, by decide, fun i hi => ?_⟩, fun q hq => rfl⟩
  rw [Nat.zero_div]
  rfl
set_option maxRecDepth 20000 in
theorem new_SX {h : Nat → aE} {xs : Nat → Int32} {pA fA wA oA sA pB fB wB oB sB pC fC wC oC sC : Nat → Int32} (C : Cells h 0 (cSP pA fA wA oA sA pB fB wB oB sB pC fC wC oC sC 0)) (tA : TabS 35 6 (kU 0) pA fA wA oA sA) (tB : TabS 31 5 (kU 1) pB fB wB oB sB) (tC : TabS 52 6 (kU 2) pC fC wC oC sC) (S3 : h (aBig + 3) = .inl (1, 36, .inl (sVal xs 3))) (S4 : h (aBig + 4) = .inl (1, 36, .inl (sVal xs 4))) (S5 : h (aBig + 5) = .inl (1, 17, .inl (sVal xs 5))) (S6 : h (aBig + 6) = .inl (1, 17, .inl (sVal xs 6))) (S7 : h (aBig + 7) = .inl (1, 53, .inl (sVal xs 7))) (S8 : h (aBig + 8) = .inl (1, 53, .inl (sVal xs 8))) : SX h V0 := by
  have F0 : h 0 = .inr (10, [.ref 1, .ref 3, .ref 5, .ref 7, .long 0, .ref 9, .ref 38, .ref 67, .ref 81, .ref 189, .int 2, .int 3]) := Cells.at_ _ 0 0 C rfl
  have F1 : h 1 = .inr (7, [.ref 2, .int 0, .int 0, .long 0, .int 0]) := Cells.at_ _ 0 1 C rfl
  have F2 : h 2 = .inl (0, 8000, .inl (fun _ => 0)) := Cells.at_ _ 0 2 C rfl
  have F3 : h 3 = .inr (7, [.ref 4, .int 0, .int 0, .long 0, .int 0]) := Cells.at_ _ 0 3 C rfl
  have F4 : h 4 = .inl (0, 12000, .inl (fun _ => 0)) := Cells.at_ _ 0 4 C rfl
  have F5 : h 5 = .inr (7, [.ref 6, .int 0, .int 0, .long 0, .int 0]) := Cells.at_ _ 0 5 C rfl
  have F6 : h 6 = .inl (0, 12000, .inl (fun _ => 0)) := Cells.at_ _ 0 6 C rfl
  have F7 : h 7 = .inr (7, [.ref 8, .int 0, .int 0, .long 0, .int 0]) := Cells.at_ _ 0 7 C rfl
  have F8 : h 8 = .inl (0, 8000, .inl (fun _ => 0)) := Cells.at_ _ 0 8 C rfl
  have F9 : h 9 = .inr (9, [.ref 10, .ref 12, .ref 16, .ref 23, .ref 30, .ref 37]) := Cells.at_ _ 0 9 C rfl
  have F10 : h 10 = .inr (7, [.ref 11, .int 0, .int 0, .long 0, .int 0]) := Cells.at_ _ 0 10 C rfl
  have F11 : h 11 = .inl (0, 0, .inl (fun _ => 0)) := Cells.at_ _ 0 11 C rfl
  have F12 : h 12 = .inr (0, [.ref 13, .ref 14, .ref 15, .int 0, .int 0]) := Cells.at_ _ 0 12 C rfl
  have F13 : h 13 = .inl (1, 256, .inl (fun _ => 0)) := Cells.at_ _ 0 13 C rfl
  have F14 : h 14 = .inl (1, 256, .inl (fun _ => 0)) := Cells.at_ _ 0 14 C rfl
  have F15 : h 15 = .inl (1, 13, .inl (fun _ => 0)) := Cells.at_ _ 0 15 C rfl
  have F16 : h 16 = .inr (8, [.int 35, .ref 17, .ref 18, .ref 19, .ref 20, .ref 21, .ref 22, .int 0, .int 0]) := Cells.at_ _ 0 16 C rfl
  have F17 : h 17 = .inl (1, 36, .inl (fun _ => 0)) := Cells.at_ _ 0 17 C rfl
  have F18 : h 18 = .inl (1, 36, .inl (fun _ => 0)) := Cells.at_ _ 0 18 C rfl
  have F19 : h 19 = .inl (1, 36, .inl (fun _ => 0)) := Cells.at_ _ 0 19 C rfl
  have F20 : h 20 = .inl (1, 36, .inl (fun _ => 0)) := Cells.at_ _ 0 20 C rfl
  have F21 : h 21 = .inl (1, 512, .inl (fun _ => 0)) := Cells.at_ _ 0 21 C rfl
  have F22 : h 22 = .inl (1, 512, .inl (fun _ => 0)) := Cells.at_ _ 0 22 C rfl
  have F23 : h 23 = .inr (8, [.int 31, .ref 24, .ref 25, .ref 26, .ref 27, .ref 28, .ref 29, .int 0, .int 0]) := Cells.at_ _ 0 23 C rfl
  have F24 : h 24 = .inl (1, 32, .inl (fun _ => 0)) := Cells.at_ _ 0 24 C rfl
  have F25 : h 25 = .inl (1, 32, .inl (fun _ => 0)) := Cells.at_ _ 0 25 C rfl
  have F26 : h 26 = .inl (1, 32, .inl (fun _ => 0)) := Cells.at_ _ 0 26 C rfl
  have F27 : h 27 = .inl (1, 32, .inl (fun _ => 0)) := Cells.at_ _ 0 27 C rfl
  have F28 : h 28 = .inl (1, 256, .inl (fun _ => 0)) := Cells.at_ _ 0 28 C rfl
  have F29 : h 29 = .inl (1, 256, .inl (fun _ => 0)) := Cells.at_ _ 0 29 C rfl
  have F30 : h 30 = .inr (8, [.int 52, .ref 31, .ref 32, .ref 33, .ref 34, .ref 35, .ref 36, .int 0, .int 0]) := Cells.at_ _ 0 30 C rfl
  have F31 : h 31 = .inl (1, 53, .inl (fun _ => 0)) := Cells.at_ _ 0 31 C rfl
  have F32 : h 32 = .inl (1, 53, .inl (fun _ => 0)) := Cells.at_ _ 0 32 C rfl
  have F33 : h 33 = .inl (1, 53, .inl (fun _ => 0)) := Cells.at_ _ 0 33 C rfl
  have F34 : h 34 = .inl (1, 53, .inl (fun _ => 0)) := Cells.at_ _ 0 34 C rfl
  have F35 : h 35 = .inl (1, 512, .inl (fun _ => 0)) := Cells.at_ _ 0 35 C rfl
  have F36 : h 36 = .inl (1, 512, .inl (fun _ => 0)) := Cells.at_ _ 0 36 C rfl
  have F37 : h 37 = .inl (1, 3, .inl lat0) := Cells.at_ _ 0 37 C rfl
  have F38 : h 38 = .inr (9, [.ref 39, .ref 41, .ref 45, .ref 52, .ref 59, .ref 66]) := Cells.at_ _ 0 38 C rfl
  have F39 : h 39 = .inr (7, [.ref 40, .int 0, .int 0, .long 0, .int 0]) := Cells.at_ _ 0 39 C rfl
  have F40 : h 40 = .inl (0, 0, .inl (fun _ => 0)) := Cells.at_ _ 0 40 C rfl
  have F41 : h 41 = .inr (0, [.ref 42, .ref 43, .ref 44, .int 0, .int 0]) := Cells.at_ _ 0 41 C rfl
  have F42 : h 42 = .inl (1, 256, .inl (fun _ => 0)) := Cells.at_ _ 0 42 C rfl
  have F43 : h 43 = .inl (1, 256, .inl (fun _ => 0)) := Cells.at_ _ 0 43 C rfl
  have F44 : h 44 = .inl (1, 13, .inl (fun _ => 0)) := Cells.at_ _ 0 44 C rfl
  have F45 : h 45 = .inr (8, [.int 35, .ref 46, .ref 47, .ref 48, .ref 49, .ref 50, .ref 51, .int 0, .int 0]) := Cells.at_ _ 0 45 C rfl
  have F46 : h 46 = .inl (1, 36, .inl (fun _ => 0)) := Cells.at_ _ 0 46 C rfl
  have F47 : h 47 = .inl (1, 36, .inl (fun _ => 0)) := Cells.at_ _ 0 47 C rfl
  have F48 : h 48 = .inl (1, 36, .inl (fun _ => 0)) := Cells.at_ _ 0 48 C rfl
  have F49 : h 49 = .inl (1, 36, .inl (fun _ => 0)) := Cells.at_ _ 0 49 C rfl
  have F50 : h 50 = .inl (1, 512, .inl (fun _ => 0)) := Cells.at_ _ 0 50 C rfl
  have F51 : h 51 = .inl (1, 512, .inl (fun _ => 0)) := Cells.at_ _ 0 51 C rfl
  have F52 : h 52 = .inr (8, [.int 31, .ref 53, .ref 54, .ref 55, .ref 56, .ref 57, .ref 58, .int 0, .int 0]) := Cells.at_ _ 0 52 C rfl
  have F53 : h 53 = .inl (1, 32, .inl (fun _ => 0)) := Cells.at_ _ 0 53 C rfl
  have F54 : h 54 = .inl (1, 32, .inl (fun _ => 0)) := Cells.at_ _ 0 54 C rfl
  have F55 : h 55 = .inl (1, 32, .inl (fun _ => 0)) := Cells.at_ _ 0 55 C rfl
  have F56 : h 56 = .inl (1, 32, .inl (fun _ => 0)) := Cells.at_ _ 0 56 C rfl
  have F57 : h 57 = .inl (1, 256, .inl (fun _ => 0)) := Cells.at_ _ 0 57 C rfl
  have F58 : h 58 = .inl (1, 256, .inl (fun _ => 0)) := Cells.at_ _ 0 58 C rfl
  have F59 : h 59 = .inr (8, [.int 52, .ref 60, .ref 61, .ref 62, .ref 63, .ref 64, .ref 65, .int 0, .int 0]) := Cells.at_ _ 0 59 C rfl
  have F60 : h 60 = .inl (1, 53, .inl (fun _ => 0)) := Cells.at_ _ 0 60 C rfl
  have F61 : h 61 = .inl (1, 53, .inl (fun _ => 0)) := Cells.at_ _ 0 61 C rfl
  have F62 : h 62 = .inl (1, 53, .inl (fun _ => 0)) := Cells.at_ _ 0 62 C rfl
  have F63 : h 63 = .inl (1, 53, .inl (fun _ => 0)) := Cells.at_ _ 0 63 C rfl
  have F64 : h 64 = .inl (1, 512, .inl (fun _ => 0)) := Cells.at_ _ 0 64 C rfl
  have F65 : h 65 = .inl (1, 512, .inl (fun _ => 0)) := Cells.at_ _ 0 65 C rfl
  have F66 : h 66 = .inl (1, 3, .inl lat0) := Cells.at_ _ 0 66 C rfl
  have F67 : h 67 = .inr (2, [.ref 68, .ref 69, .ref 70, .ref 77, .ref 79]) := Cells.at_ _ 0 67 C rfl
  have F68 : h 68 = .inl (1, 256, .inl (fun _ => 0)) := Cells.at_ _ 0 68 C rfl
  have F69 : h 69 = .inl (1, 12, .inl (fun _ => 0)) := Cells.at_ _ 0 69 C rfl
  have F70 : h 70 = .inr (8, [.int 11, .ref 71, .ref 72, .ref 73, .ref 74, .ref 75, .ref 76, .int 0, .int 0]) := Cells.at_ _ 0 70 C rfl
  have F71 : h 71 = .inl (1, 12, .inl (fun _ => 0)) := Cells.at_ _ 0 71 C rfl
  have F72 : h 72 = .inl (1, 12, .inl (fun _ => 0)) := Cells.at_ _ 0 72 C rfl
  have F73 : h 73 = .inl (1, 12, .inl (fun _ => 0)) := Cells.at_ _ 0 73 C rfl
  have F74 : h 74 = .inl (1, 12, .inl (fun _ => 0)) := Cells.at_ _ 0 74 C rfl
  have F75 : h 75 = .inl (1, 64, .inl (fun _ => 0)) := Cells.at_ _ 0 75 C rfl
  have F76 : h 76 = .inl (1, 64, .inl (fun _ => 0)) := Cells.at_ _ 0 76 C rfl
  have F77 : h 77 = .inr (7, [.ref 78, .int 0, .int 0, .long 0, .int 0]) := Cells.at_ _ 0 77 C rfl
  have F78 : h 78 = .inl (0, 512, .inl (fun _ => 0)) := Cells.at_ _ 0 78 C rfl
  have F79 : h 79 = .inr (7, [.ref 80, .int 0, .int 0, .long 0, .int 0]) := Cells.at_ _ 0 79 C rfl
  have F80 : h 80 = .inl (0, 512, .inl (fun _ => 0)) := Cells.at_ _ 0 80 C rfl
  have F81 : h 81 = .inr (6, [.ref 82, .ref 89, .ref 108, .ref 135, .ref 162, .ref 86, .ref 87, .int 0, .ref 88]) := Cells.at_ _ 0 81 C rfl
  have F82 : h 82 = .inr (3, [.ref 83, .int 0, .ref 84, .ref 85, .int 0, .int 0, .int 0, .int 0, .int 0, .int 0, .int 0, .int 0, .int 0]) := Cells.at_ _ 0 82 C rfl
  have F83 : h 83 = .inl (0, 16000, .inl (fun _ => 0)) := Cells.at_ _ 0 83 C rfl
  have F84 : h 84 = .inl (1, 16000, .inl (fun _ => 0)) := Cells.at_ _ 0 84 C rfl
  have F85 : h 85 = .inl (1, 4096, .inl (fun _ => 0)) := Cells.at_ _ 0 85 C rfl
  have F86 : h 86 = .inl (1, 3, .inl (fun _ => 0)) := Cells.at_ _ 0 86 C rfl
  have F87 : h 87 = .inl (1, 3, .inl (fun _ => 0)) := Cells.at_ _ 0 87 C rfl
  have F88 : h 88 = .inl (1, 12, .inl (fun _ => 0)) := Cells.at_ _ 0 88 C rfl
  have F89 : h 89 = .inr (5, [.ref 90, .ref 91, .int 0, .ref 92, .ref 96, .ref 100, .ref 67, .ref 106, .int 0, .int 0, .int 0, .int 0]) := Cells.at_ _ 0 89 C rfl
  have F90 : h 90 = .inl (0, 8000, .inl (fun _ => 0)) := Cells.at_ _ 0 90 C rfl
  have F91 : h 91 = .inl (1, 256, .inl (fun _ => 0)) := Cells.at_ _ 0 91 C rfl
  have F92 : h 92 = .inr (0, [.ref 93, .ref 94, .ref 95, .int 0, .int 0]) := Cells.at_ _ 0 92 C rfl
  have F93 : h 93 = .inl (1, 256, .inl (fun _ => 0)) := Cells.at_ _ 0 93 C rfl
  have F94 : h 94 = .inl (1, 256, .inl (fun _ => 0)) := Cells.at_ _ 0 94 C rfl
  have F95 : h 95 = .inl (1, 13, .inl (fun _ => 0)) := Cells.at_ _ 0 95 C rfl
  have F96 : h 96 = .inr (0, [.ref 97, .ref 98, .ref 99, .int 0, .int 0]) := Cells.at_ _ 0 96 C rfl
  have F97 : h 97 = .inl (1, 256, .inl (fun _ => 0)) := Cells.at_ _ 0 97 C rfl
  have F98 : h 98 = .inl (1, 256, .inl (fun _ => 0)) := Cells.at_ _ 0 98 C rfl
  have F99 : h 99 = .inl (1, 13, .inl (fun _ => 0)) := Cells.at_ _ 0 99 C rfl
  have F100 : h 100 = .inr (4, [.ref 101, .ref 102, .ref 103, .ref 104, .ref 105]) := Cells.at_ _ 0 100 C rfl
  have F101 : h 101 = .inl (1, 256, .inl (fun _ => 0)) := Cells.at_ _ 0 101 C rfl
  have F102 : h 102 = .inl (1, 256, .inl (fun _ => 0)) := Cells.at_ _ 0 102 C rfl
  have F103 : h 103 = .inl (1, 512, .inl (fun _ => 0)) := Cells.at_ _ 0 103 C rfl
  have F104 : h 104 = .inl (1, 512, .inl (fun _ => 0)) := Cells.at_ _ 0 104 C rfl
  have F105 : h 105 = .inl (1, 512, .inl (fun _ => 0)) := Cells.at_ _ 0 105 C rfl
  have F106 : h 106 = .inr (7, [.ref 107, .int 0, .int 0, .long 0, .int 0]) := Cells.at_ _ 0 106 C rfl
  have F107 : h 107 = .inl (0, 256, .inl (fun _ => 0)) := Cells.at_ _ 0 107 C rfl
  have F108 : h 108 = .inr (1, [.ref (aBig + 3), .ref (aBig + 4), .int 9, .ref 109, .ref 110, .ref 113, .int 0, .int 0, .int 0, .ref 114, .ref 121, .ref 128, .ref 114, .ref 111, .int 0, .int 0, .int 0, .int 0]) := Cells.at_ _ 0 108 C rfl
  have F109 : h 109 = .inl (1, 2667, .inl (fun _ => 0)) := Cells.at_ _ 0 109 C rfl
  have F110 : h 110 = .inl (1, 2667, .inl (fun _ => 0)) := Cells.at_ _ 0 110 C rfl
  have F111 : h 111 = .inr (7, [.ref 112, .int 0, .int 0, .long 0, .int 0]) := Cells.at_ _ 0 111 C rfl
  have F112 : h 112 = .inl (0, 128, .inl (fun _ => 0)) := Cells.at_ _ 0 112 C rfl
  have F113 : h 113 = .inl (1, 36, .inl (fun _ => 0)) := Cells.at_ _ 0 113 C rfl
  have F114 : h 114 = .inr (8, [.int 35, .ref 115, .ref 116, .ref 117, .ref 118, .ref 119, .ref 120, .int 6, .int 1]) := Cells.at_ _ 0 114 C rfl
  have F115 : h 115 = .inl (1, 36, .inl pA) := Cells.at_ _ 0 115 C rfl
  have F116 : h 116 = .inl (1, 36, .inl (fun _ => 0)) := Cells.at_ _ 0 116 C rfl
  have F117 : h 117 = .inl (1, 36, .inl fA) := Cells.at_ _ 0 117 C rfl
  have F118 : h 118 = .inl (1, 36, .inl wA) := Cells.at_ _ 0 118 C rfl
  have F119 : h 119 = .inl (1, 512, .inl oA) := Cells.at_ _ 0 119 C rfl
  have F120 : h 120 = .inl (1, 512, .inl sA) := Cells.at_ _ 0 120 C rfl
  have F121 : h 121 = .inr (8, [.int 35, .ref 122, .ref 123, .ref 124, .ref 125, .ref 126, .ref 127, .int 0, .int 0]) := Cells.at_ _ 0 121 C rfl
  have F122 : h 122 = .inl (1, 36, .inl (fun _ => 0)) := Cells.at_ _ 0 122 C rfl
  have F123 : h 123 = .inl (1, 36, .inl (fun _ => 0)) := Cells.at_ _ 0 123 C rfl
  have F124 : h 124 = .inl (1, 36, .inl (fun _ => 0)) := Cells.at_ _ 0 124 C rfl
  have F125 : h 125 = .inl (1, 36, .inl (fun _ => 0)) := Cells.at_ _ 0 125 C rfl
  have F126 : h 126 = .inl (1, 512, .inl (fun _ => 0)) := Cells.at_ _ 0 126 C rfl
  have F127 : h 127 = .inl (1, 512, .inl (fun _ => 0)) := Cells.at_ _ 0 127 C rfl
  have F128 : h 128 = .inr (8, [.int 35, .ref 129, .ref 130, .ref 131, .ref 132, .ref 133, .ref 134, .int 0, .int 0]) := Cells.at_ _ 0 128 C rfl
  have F129 : h 129 = .inl (1, 36, .inl (fun _ => 0)) := Cells.at_ _ 0 129 C rfl
  have F130 : h 130 = .inl (1, 36, .inl (fun _ => 0)) := Cells.at_ _ 0 130 C rfl
  have F131 : h 131 = .inl (1, 36, .inl (fun _ => 0)) := Cells.at_ _ 0 131 C rfl
  have F132 : h 132 = .inl (1, 36, .inl (fun _ => 0)) := Cells.at_ _ 0 132 C rfl
  have F133 : h 133 = .inl (1, 512, .inl (fun _ => 0)) := Cells.at_ _ 0 133 C rfl
  have F134 : h 134 = .inl (1, 512, .inl (fun _ => 0)) := Cells.at_ _ 0 134 C rfl
  have F135 : h 135 = .inr (1, [.ref (aBig + 5), .ref (aBig + 6), .int 8, .ref 136, .ref 137, .ref 140, .int 0, .int 0, .int 0, .ref 141, .ref 148, .ref 155, .ref 141, .ref 138, .int 0, .int 0, .int 0, .int 0]) := Cells.at_ _ 0 135 C rfl
  have F136 : h 136 = .inl (1, 2667, .inl (fun _ => 0)) := Cells.at_ _ 0 136 C rfl
  have F137 : h 137 = .inl (1, 2667, .inl (fun _ => 0)) := Cells.at_ _ 0 137 C rfl
  have F138 : h 138 = .inr (7, [.ref 139, .int 0, .int 0, .long 0, .int 0]) := Cells.at_ _ 0 138 C rfl
  have F139 : h 139 = .inl (0, 128, .inl (fun _ => 0)) := Cells.at_ _ 0 139 C rfl
  have F140 : h 140 = .inl (1, 32, .inl (fun _ => 0)) := Cells.at_ _ 0 140 C rfl
  have F141 : h 141 = .inr (8, [.int 31, .ref 142, .ref 143, .ref 144, .ref 145, .ref 146, .ref 147, .int 5, .int 1]) := Cells.at_ _ 0 141 C rfl
  have F142 : h 142 = .inl (1, 32, .inl pB) := Cells.at_ _ 0 142 C rfl
  have F143 : h 143 = .inl (1, 32, .inl (fun _ => 0)) := Cells.at_ _ 0 143 C rfl
  have F144 : h 144 = .inl (1, 32, .inl fB) := Cells.at_ _ 0 144 C rfl
  have F145 : h 145 = .inl (1, 32, .inl wB) := Cells.at_ _ 0 145 C rfl
  have F146 : h 146 = .inl (1, 256, .inl oB) := Cells.at_ _ 0 146 C rfl
  have F147 : h 147 = .inl (1, 256, .inl sB) := Cells.at_ _ 0 147 C rfl
  have F148 : h 148 = .inr (8, [.int 31, .ref 149, .ref 150, .ref 151, .ref 152, .ref 153, .ref 154, .int 0, .int 0]) := Cells.at_ _ 0 148 C rfl
  have F149 : h 149 = .inl (1, 32, .inl (fun _ => 0)) := Cells.at_ _ 0 149 C rfl
  have F150 : h 150 = .inl (1, 32, .inl (fun _ => 0)) := Cells.at_ _ 0 150 C rfl
  have F151 : h 151 = .inl (1, 32, .inl (fun _ => 0)) := Cells.at_ _ 0 151 C rfl
  have F152 : h 152 = .inl (1, 32, .inl (fun _ => 0)) := Cells.at_ _ 0 152 C rfl
  have F153 : h 153 = .inl (1, 256, .inl (fun _ => 0)) := Cells.at_ _ 0 153 C rfl
  have F154 : h 154 = .inl (1, 256, .inl (fun _ => 0)) := Cells.at_ _ 0 154 C rfl
  have F155 : h 155 = .inr (8, [.int 31, .ref 156, .ref 157, .ref 158, .ref 159, .ref 160, .ref 161, .int 0, .int 0]) := Cells.at_ _ 0 155 C rfl
  have F156 : h 156 = .inl (1, 32, .inl (fun _ => 0)) := Cells.at_ _ 0 156 C rfl
  have F157 : h 157 = .inl (1, 32, .inl (fun _ => 0)) := Cells.at_ _ 0 157 C rfl
  have F158 : h 158 = .inl (1, 32, .inl (fun _ => 0)) := Cells.at_ _ 0 158 C rfl
  have F159 : h 159 = .inl (1, 32, .inl (fun _ => 0)) := Cells.at_ _ 0 159 C rfl
  have F160 : h 160 = .inl (1, 256, .inl (fun _ => 0)) := Cells.at_ _ 0 160 C rfl
  have F161 : h 161 = .inl (1, 256, .inl (fun _ => 0)) := Cells.at_ _ 0 161 C rfl
  have F162 : h 162 = .inr (1, [.ref (aBig + 7), .ref (aBig + 8), .int 9, .ref 163, .ref 164, .ref 167, .int 0, .int 0, .int 0, .ref 168, .ref 175, .ref 182, .ref 168, .ref 165, .int 0, .int 0, .int 0, .int 0]) := Cells.at_ _ 0 162 C rfl
  have F163 : h 163 = .inl (1, 2667, .inl (fun _ => 0)) := Cells.at_ _ 0 163 C rfl
  have F164 : h 164 = .inl (1, 2667, .inl (fun _ => 0)) := Cells.at_ _ 0 164 C rfl
  have F165 : h 165 = .inr (7, [.ref 166, .int 0, .int 0, .long 0, .int 0]) := Cells.at_ _ 0 165 C rfl
  have F166 : h 166 = .inl (0, 128, .inl (fun _ => 0)) := Cells.at_ _ 0 166 C rfl
  have F167 : h 167 = .inl (1, 53, .inl (fun _ => 0)) := Cells.at_ _ 0 167 C rfl
  have F168 : h 168 = .inr (8, [.int 52, .ref 169, .ref 170, .ref 171, .ref 172, .ref 173, .ref 174, .int 6, .int 1]) := Cells.at_ _ 0 168 C rfl
  have F169 : h 169 = .inl (1, 53, .inl pC) := Cells.at_ _ 0 169 C rfl
  have F170 : h 170 = .inl (1, 53, .inl (fun _ => 0)) := Cells.at_ _ 0 170 C rfl
  have F171 : h 171 = .inl (1, 53, .inl fC) := Cells.at_ _ 0 171 C rfl
  have F172 : h 172 = .inl (1, 53, .inl wC) := Cells.at_ _ 0 172 C rfl
  have F173 : h 173 = .inl (1, 512, .inl oC) := Cells.at_ _ 0 173 C rfl
  have F174 : h 174 = .inl (1, 512, .inl sC) := Cells.at_ _ 0 174 C rfl
  have F175 : h 175 = .inr (8, [.int 52, .ref 176, .ref 177, .ref 178, .ref 179, .ref 180, .ref 181, .int 0, .int 0]) := Cells.at_ _ 0 175 C rfl
  have F176 : h 176 = .inl (1, 53, .inl (fun _ => 0)) := Cells.at_ _ 0 176 C rfl
  have F177 : h 177 = .inl (1, 53, .inl (fun _ => 0)) := Cells.at_ _ 0 177 C rfl
  have F178 : h 178 = .inl (1, 53, .inl (fun _ => 0)) := Cells.at_ _ 0 178 C rfl
  have F179 : h 179 = .inl (1, 53, .inl (fun _ => 0)) := Cells.at_ _ 0 179 C rfl
  have F180 : h 180 = .inl (1, 512, .inl (fun _ => 0)) := Cells.at_ _ 0 180 C rfl
  have F181 : h 181 = .inl (1, 512, .inl (fun _ => 0)) := Cells.at_ _ 0 181 C rfl
  have F182 : h 182 = .inr (8, [.int 52, .ref 183, .ref 184, .ref 185, .ref 186, .ref 187, .ref 188, .int 0, .int 0]) := Cells.at_ _ 0 182 C rfl
  have F183 : h 183 = .inl (1, 53, .inl (fun _ => 0)) := Cells.at_ _ 0 183 C rfl
  have F184 : h 184 = .inl (1, 53, .inl (fun _ => 0)) := Cells.at_ _ 0 184 C rfl
  have F185 : h 185 = .inl (1, 53, .inl (fun _ => 0)) := Cells.at_ _ 0 185 C rfl
  have F186 : h 186 = .inl (1, 53, .inl (fun _ => 0)) := Cells.at_ _ 0 186 C rfl
  have F187 : h 187 = .inl (1, 512, .inl (fun _ => 0)) := Cells.at_ _ 0 187 C rfl
  have F188 : h 188 = .inl (1, 512, .inl (fun _ => 0)) := Cells.at_ _ 0 188 C rfl
  have F189 : h 189 = .inl (1, 12, .inl (fun _ => 0)) := Cells.at_ _ 0 189 C rfl
  clear C
  have x9 : StX h 9 stN := ⟨F9, row_new F10 F11, (co_new F12 F13 F14 F15), (sh_new (l := 35) F16 F17 F18 F19 F20 F21 F22), (sh_new (l := 31) F23 F24 F25 F26 F27 F28 F29), (sh_new (l := 52) F30 F31 F32 F33 F34 F35 F36), ⟨lat0, F37, by decide, by decide, by decide⟩⟩
  have x38 : StX h 38 stN := ⟨F38, row_new F39 F40, (co_new F41 F42 F43 F44), (sh_new (l := 35) F45 F46 F47 F48 F49 F50 F51), (sh_new (l := 31) F52 F53 F54 F55 F56 F57 F58), (sh_new (l := 52) F59 F60 F61 F62 F63 F64 F65), ⟨lat0, F66, by decide, by decide, by decide⟩⟩
  have xF : FiZ h := ⟨0, 0, 0, 0, 0, 0, 0, 0, 0, 0, _, _, _, F82, F83, F84, F85⟩
  have xK : KnX h := ⟨F100, _, _, _, _, _, F101, F102, F103, F104, F105⟩
  have xL : LiX h none := ⟨0, 0, 0, 0, 0, _, _, F89, F90, F91, (co_new F92 F93 F94 F95), (cox_new F96 F97 F98 F99), xK, rowe_new F106 F107⟩
  have xD : DX h := ⟨77, 79, _, _, Or.inl ⟨rfl, rfl⟩, F67, F68, F69, (shx_new (l := 11) F70 F71 F72 F73 F74 F75 F76), rowe_new F77 F78, rowe_new F79 F80⟩
  have y1 : CX1 h none := ⟨114, 0, 0, 0, 0, 0, 0, 0, _, _, _, F108, F109, F110, F113, rowe_new F111 F112, ⟨pA, _, fA, wA, oA, sA, ⟨F114, F115, F116, F117, F118, F119, F120⟩, tA⟩, (sh_new (l := 35) F121 F122 F123 F124 F125 F126 F127), (shx_new (l := 35) F128 F129 F130 F131 F132 F133 F134), colP1 S3 S4⟩
  have y2 : CX2 h none := ⟨141, 0, 0, 0, 0, 0, 0, 0, _, _, _, F135, F136, F137, F140, rowe_new F138 F139, ⟨pB, _, fB, wB, oB, sB, ⟨F141, F142, F143, F144, F145, F146, F147⟩, tB⟩, (sh_new (l := 31) F148 F149 F150 F151 F152 F153 F154), (shx_new (l := 31) F155 F156 F157 F158 F159 F160 F161), colP2 S5 S6⟩
  have y3 : CX3 h none := ⟨168, 0, 0, 0, 0, 0, 0, 0, _, _, _, F162, F163, F164, F167, rowe_new F165 F166, ⟨pC, _, fC, wC, oC, sC, ⟨F168, F169, F170, F171, F172, F173, F174⟩, tC⟩, (sh_new (l := 52) F175 F176 F177 F178 F179 F180 F181), (shx_new (l := 52) F182 F183 F184 F185 F186 F187 F188), colP3 S7 S8⟩
  have xP : PkY h (none, none, none, none, (0, 0, 0), fun _ => 0) := ⟨⟨0, F81⟩, ⟨_, F87⟩, ⟨_, F86, rfl, rfl, rfl⟩, ⟨_, F88, fun q _ => rfl⟩, xF, xL, xD, y1, y2, y3⟩
  exact ⟨3, 5, 9, 38, F0, Or.inl ⟨rfl, rfl⟩, Or.inl ⟨rfl, rfl⟩, row_new F1 F2, row_new F3 F4, rowe_new F5 F6, row_new F7 F8, x9, (x38).toZ, ⟨_, xP⟩, ⟨_, F189, fun q _ => rfl⟩⟩
set_option maxRecDepth 20000 in
theorem law_startS {L : Nat} {xs : Nat → Int32} {Ψ : Option Value → aH → Prop} (kk : ∀ (h : Nat → aE) (s : Nat), s ≤ 400000 → IV h L (sVal xs 9) → WX (lk tLaw) (mM 10) Ψ 18 [(0, .ref (aBig + 9)), (1, .ref 0), (2, .ref 190), (3, .int (nI 0))] [] (234, s, h)) : WX (lk tLaw) (mM 10) Ψ 0 [(0, .ref (aBig + 9))] [] (H0 L xs) := by
  unfold H0
  have hB : aBig = 1000000 := rfl
  refine WX.newN rfl (by decide) (fun h1 e1 => ?_)
  refine WX.s1 rfl rfl ?_
  have F1 : h1 0 = .inr (10, zX11) := by rw [e1]; exact va_up_eq
  have S1 : ∀ j, aBig ≤ j → h1 j = .inl (1, sLen L (j - aBig), .inl (sVal xs (j - aBig))) := fun j hj => by rw [e1]; exact va_up_neq (show j ≠ 0 by omega)
  have K0 : h1 (aBig + 0) = .inl (1, 36, .inl (sVal xs 0)) := by
    rw [S1 _ (Nat.le_add_right _ _), Nat.add_sub_cancel_left]
    rfl
  have K1 : h1 (aBig + 1) = .inl (1, 29, .inl (sVal xs 1)) := by
    rw [S1 _ (Nat.le_add_right _ _), Nat.add_sub_cancel_left]
    rfl
  have K2 : h1 (aBig + 2) = .inl (1, 53, .inl (sVal xs 2)) := by
    rw [S1 _ (Nat.le_add_right _ _), Nat.add_sub_cancel_left]
    rfl
  refine WX.callC (vs := [.ref 0]) rfl rfl rfl (Nat.le_of_ble_eq_true rfl) (rcv_ok (by decide) F1) ?_
  refine n_spS (k := 0) (by decide) F1 (N0 := 36) (kn0 := sVal xs 0) K0 (by decide) (kns0 xs) (N1 := 29) (kn1 := sVal xs 1) K1 (by decide) (kns1 xs) (N2 := 53) (kn2 := sVal xs 2) K2 (by decide) (kns2 xs) (fun h2 pA fA wA oA sA pB fB wB oB sB pC fC wC oC sC tA tB tC fr2 C2 => ?_)
  show WX _ _ _ 7 [(0, .ref (aBig + 9))] [.ref 0] (190, _, h2)
  refine WX.asN (L' := [(0, .ref (aBig + 9)), (1, .ref 0)]) rfl rfl ?_
  refine WX.newN rfl (by decide) (fun h3 e3 => ?_)
  refine WX.s1 rfl rfl ?_
  have F3 : h3 190 = .inr (11, zX12) := by rw [e3]; exact va_up_eq
  refine WX.callC (vs := [.ref 190]) rfl rfl rfl (Nat.le_of_ble_eq_true rfl) (rcv_ok (by decide) F3) ?_
  refine n_model (k := 190) (by decide) F3 (fun h4 fr4 o4 B4 => ?_)
  show WX _ _ _ 15 [(0, .ref (aBig + 9)), (1, .ref 0)] [.ref 190] (234, _, h4)
  refine WX.asN (L' := [(0, .ref (aBig + 9)), (1, .ref 0), (2, .ref 190)]) rfl rfl ?_
  refine WX.s1 rfl rfl ?_
  refine WX.isN (L' := fun x => [(0, .ref (aBig + 9)), (1, .ref 0), (2, .ref 190), (3, .int x)]) rfl (fun _ => rfl) (fun x ex => ?_)
  subst ex
  have e4 : ∀ j, j < 190 → h4 j = h2 j := fun j hj => by
    rw [fr4 j (Or.inl hj), e3]
    exact va_up_neq (show j ≠ 190 by omega)
  have C4 : Cells h4 0 (cSP pA fA wA oA sA pB fB wB oB sB pC fC wC oC sC 0) := Cells.keep_ _ 0 C2 (fun j _ h2 => e4 j (by rw [cSP_len] at h2; omega))
  have S4 : ∀ j, aBig ≤ j → h4 j = .inl (1, sLen L (j - aBig), .inl (sVal xs (j - aBig))) := fun j hj => by
    rw [fr4 j (Or.inr hj), e3]
    exact (va_up_neq (show j ≠ 190 by omega)).trans ((fr2 j (Or.inr hj)).trans (S1 j hj))
  have T3 : h4 (aBig + 3) = .inl (1, 36, .inl (sVal xs 3)) := by
    rw [S4 _ (Nat.le_add_right _ _), Nat.add_sub_cancel_left]
    rfl
  have T4 : h4 (aBig + 4) = .inl (1, 36, .inl (sVal xs 4)) := by
    rw [S4 _ (Nat.le_add_right _ _), Nat.add_sub_cancel_left]
    rfl
  have T5 : h4 (aBig + 5) = .inl (1, 17, .inl (sVal xs 5)) := by
    rw [S4 _ (Nat.le_add_right _ _), Nat.add_sub_cancel_left]
    rfl
  have T6 : h4 (aBig + 6) = .inl (1, 17, .inl (sVal xs 6)) := by
    rw [S4 _ (Nat.le_add_right _ _), Nat.add_sub_cancel_left]
    rfl
  have T7 : h4 (aBig + 7) = .inl (1, 53, .inl (sVal xs 7)) := by
    rw [S4 _ (Nat.le_add_right _ _), Nat.add_sub_cancel_left]
    rfl
  have T8 : h4 (aBig + 8) = .inl (1, 53, .inl (sVal xs 8)) := by
    rw [S4 _ (Nat.le_add_right _ _), Nat.add_sub_cancel_left]
    rfl
  have T9 : h4 (aBig + 9) = .inl (1, L, .inl (sVal xs 9)) := by
    rw [S4 _ (Nat.le_add_right _ _), Nat.add_sub_cancel_left]
    rfl
  exact kk h4 _ (Nat.le_of_ble_eq_true rfl) ⟨V0, new_SX C4 tA tB tC T3 T4 T5 T6 T7 T8, ⟨_, _, _, MAt.of o4 B4, new_RX⟩, V0_ok, T9⟩
theorem law_runs {L : Nat} {xs : Nat → Int32} (hL : L ≤ 2048) : ∃ n H', aX (lk tLaw) (mM 10) n 0 [(0, .ref (aBig + 9))] [] (H0 L xs) (some (.int 1)) H' ∧ H'.1 ≤ 600000 ∧ H'.2.1 ≤ 7302250 := by
  have w : WX (lk tLaw) (mM 10) (fun r H' => r = some (.int 1) ∧ H'.1 ≤ 600000 ∧ H'.2.1 ≤ 7302250) 0 [(0, .ref (aBig + 9))] [] (H0 L xs) := by
    refine law_startS (fun h s hs hI => ?_)
    exact lw_loop hL (fun h2 => ⟨rfl, Nat.le_of_ble_eq_true rfl, Nat.le_trans hs (Nat.le_of_ble_eq_true rfl)⟩) (L + 1) 0 h (by omega) (by omega) hI
  obtain ⟨n, r, H', hx, rfl, h1, h2⟩ := w
  exact ⟨n, H', hx, h1, h2⟩
