/-! StatePress on an empty IN: press, and the other calls of a new object (rows laid by a program) -/
theorem WX.nm1 {tb : aT} {o : aO} {Ψ : Option Value → aH → Prop} {pc : Nat} {L : aL} {v : Int32} {S : List Value} {H : aH} (k : ∀ x : Int32, WX tb o Ψ pc L (.int x :: S) H) : WX tb o Ψ pc L (.int v :: S) H := k v
theorem min0 {c : Int32} (h : ¬ c < 1) : (if (0 : Int32) + 0 < 0 + c then (0 : Int32) + 0 else 0 + c) = 0 := by
  have h1 : (1 : Int32) ≤ c := Int32.not_lt.mp h
  have h2 : (0 : Int32) < c := Int32.lt_of_lt_of_le (by decide) h1
  have e : (0 : Int32) + c = c := by rw [Int32.zero_add]
  rw [e, if_pos (show (0 : Int32) + 0 < c from h2)]
  rfl
set_option maxRecDepth 20000 in
theorem x_press0 {d n s : Nat} {h : Nat → aE} {fl e cut : Int32} (hn : 190 ≤ n)  (F_h_0 : h 0 = .inr (10, [.ref 1, .ref 3, .ref 5, .ref 7, .long 0, .ref 9, .ref 38, .ref 67, .ref 81, .ref 189, .int 2, .int 3])) (F_h_1 : h 1 = .inr (7, [.ref 2, .int 0, .int 0, .long 0, .int 0])) (F_h_2 : h 2 = .inl (0, 8000, .inl (fun _ => 0))) (F_h_7 : h 7 = .inr (7, [.ref 8, .int 0, .int 0, .long 0, .int 0])) (F_h_8 : h 8 = .inl (0, 8000, .inl (fun _ => 0))) (F_h_9 : h 9 = .inr (9, [.ref 10, .ref 12, .ref 16, .ref 23, .ref 30, .ref 37])) (F_h_12 : h 12 = .inr (0, [.ref 13, .ref 14, .ref 15, .int 0, .int 0])) (F_h_37 : h 37 = .inl (1, 3, .inl lat0)) (F_h_81 : h 81 = .inr (6, [.ref 82, .ref 89, .ref 108, .ref 135, .ref 162, .ref 86, .ref 87, .int 0, .ref 88])) (F_h_82 : h 82 = .inr (3, [.ref 83, .int 0, .ref 84, .ref 85, .int 0, .int 0, .int 0, .int 0, .int 0, .int 0, .int 0, .int 0, .int 0])) (F_h_83 : h 83 = .inl (0, 16000, .inl (fun _ => 0))) (F_h_85 : h 85 = .inl (1, 4096, .inl (fun _ => 0))) (F_h_86 : h 86 = .inl (1, 3, .inl (fun _ => 0))) (F_h_87 : h 87 = .inl (1, 3, .inl (fun _ => 0))) (F_h_88 : h 88 = .inl (1, 12, .inl (fun _ => 0))) (F_h_89 : h 89 = .inr (5, [.ref 90, .ref 91, .int 0, .ref 92, .ref 96, .ref 100, .ref 67, .ref 106, .int 0, .int 0, .int 0, .int 0])) (F_h_91 : h 91 = .inl (1, 256, .inl (fun _ => 0))) (F_h_92 : h 92 = .inr (0, [.ref 93, .ref 94, .ref 95, .int 0, .int 0])) (F_h_189 : h 189 = .inl (1, 12, .inl (fun _ => 0))) (F_h_108 : h 108 = .inr (1, [.ref (aBig + 3), .ref (aBig + 4), .int 9, .ref 109, .ref 110, .ref 113, .int 0, .int 0, .int 0, .ref 114, .ref 121, .ref 128, .ref 114, .ref 111, .int 0, .int 0, .int 0, .int 0])) (F_h_113 : h 113 = .inl (1, 36, .inl (fun _ => 0))) (F_h_121 : h 121 = .inr (8, [.int 35, .ref 122, .ref 123, .ref 124, .ref 125, .ref 126, .ref 127, .int 0, .int 0])) (F_h_16 : h 16 = .inr (8, [.int 35, .ref 17, .ref 18, .ref 19, .ref 20, .ref 21, .ref 22, .int 0, .int 0])) (F_h_135 : h 135 = .inr (1, [.ref (aBig + 5), .ref (aBig + 6), .int 8, .ref 136, .ref 137, .ref 140, .int 0, .int 0, .int 0, .ref 141, .ref 148, .ref 155, .ref 141, .ref 138, .int 0, .int 0, .int 0, .int 0])) (F_h_140 : h 140 = .inl (1, 32, .inl (fun _ => 0))) (F_h_148 : h 148 = .inr (8, [.int 31, .ref 149, .ref 150, .ref 151, .ref 152, .ref 153, .ref 154, .int 0, .int 0])) (F_h_23 : h 23 = .inr (8, [.int 31, .ref 24, .ref 25, .ref 26, .ref 27, .ref 28, .ref 29, .int 0, .int 0])) (F_h_162 : h 162 = .inr (1, [.ref (aBig + 7), .ref (aBig + 8), .int 9, .ref 163, .ref 164, .ref 167, .int 0, .int 0, .int 0, .ref 168, .ref 175, .ref 182, .ref 168, .ref 165, .int 0, .int 0, .int 0, .int 0])) (F_h_167 : h 167 = .inl (1, 53, .inl (fun _ => 0))) (F_h_175 : h 175 = .inr (8, [.int 52, .ref 176, .ref 177, .ref 178, .ref 179, .ref 180, .ref 181, .int 0, .int 0])) (F_h_30 : h 30 = .inr (8, [.int 52, .ref 31, .ref 32, .ref 33, .ref 34, .ref 35, .ref 36, .int 0, .int 0])) (P_h_nx : RowN h 5 12000 0) {Ψ : Option Value → aH → Prop} (k0 : pBad fl e cut → Ψ (some (.int (-1))) (n, s, h)) (k1 : ∀ h', ¬ pBad fl e cut → Fr h h' (fun j => j < 190) → Ψ (some (.int (nI (pCnt fl)))) (n, s, h')) : WO (mM (d + 6)) 131 [.ref 0, .int fl, .int e, .int cut] (n, s, h) Ψ := by
  refine WO.of (Nat.le_of_ble_eq_true rfl) ?_
  have FR_h : Fr h h (fun j => j < 190) := Fr.rf
  show WX (lk tX11_press) (mM (d + 5)) Ψ 0 [(0, .ref 0), (1, .int fl), (2, .int e), (3, .int cut)] [] (n, s, h)
  refine WX.s1 rfl rfl ?_
  refine WX.if_ rfl (fun c_1 => ?_) (fun c_1 => ?_)
  · skip
    refine WX.s1 rfl rfl ?_
    refine WX.ret1 rfl (k0 ?_)
    unfold pBad
    first
      | exact Or.inl c_1
      | exact Or.inr (Or.inl c_7)
      | exact Or.inr (Or.inr (Or.inl c_11))
      | exact Or.inr (Or.inr (Or.inr (Or.inl c_17)))
      | exact Or.inr (Or.inr (Or.inr (Or.inr (Or.inl c_22))))
      | exact Or.inr (Or.inr (Or.inr (Or.inr (Or.inr (Or.inl (Int32.not_le.mp c_29))))))
      | exact Or.inr (Or.inr (Or.inr (Or.inr (Or.inr (Or.inr ⟨c_37, Int32.not_le.mp c_59⟩)))))
  · skip
    refine WX.s1 rfl rfl ?_
    refine WX.s1 rfl rfl ?_
    refine WX.icmp rfl (fun c_7 => ?_) (fun c_7 => ?_)
    · skip
      refine WX.s1 rfl rfl ?_
      refine WX.ret1 rfl (k0 ?_)
      unfold pBad
      first
        | exact Or.inl c_1
        | exact Or.inr (Or.inl c_7)
        | exact Or.inr (Or.inr (Or.inl c_11))
        | exact Or.inr (Or.inr (Or.inr (Or.inl c_17)))
        | exact Or.inr (Or.inr (Or.inr (Or.inr (Or.inl c_22))))
        | exact Or.inr (Or.inr (Or.inr (Or.inr (Or.inr (Or.inl (Int32.not_le.mp c_29))))))
        | exact Or.inr (Or.inr (Or.inr (Or.inr (Or.inr (Or.inr ⟨c_37, Int32.not_le.mp c_59⟩)))))
    · skip
      refine WX.s1 rfl rfl ?_
      refine WX.if_ rfl (fun c_11 => ?_) (fun c_11 => ?_)
      · skip
        refine WX.s1 rfl rfl ?_
        refine WX.ret1 rfl (k0 ?_)
        unfold pBad
        first
          | exact Or.inl c_1
          | exact Or.inr (Or.inl c_7)
          | exact Or.inr (Or.inr (Or.inl c_11))
          | exact Or.inr (Or.inr (Or.inr (Or.inl c_17)))
          | exact Or.inr (Or.inr (Or.inr (Or.inr (Or.inl c_22))))
          | exact Or.inr (Or.inr (Or.inr (Or.inr (Or.inr (Or.inl (Int32.not_le.mp c_29))))))
          | exact Or.inr (Or.inr (Or.inr (Or.inr (Or.inr (Or.inr ⟨c_37, Int32.not_le.mp c_59⟩)))))
      · skip
        refine WX.s1 rfl rfl ?_
        refine WX.s1 rfl rfl ?_
        refine WX.icmp rfl (fun c_17 => ?_) (fun c_17 => ?_)
        · skip
          refine WX.s1 rfl rfl ?_
          refine WX.ret1 rfl (k0 ?_)
          unfold pBad
          first
            | exact Or.inl c_1
            | exact Or.inr (Or.inl c_7)
            | exact Or.inr (Or.inr (Or.inl c_11))
            | exact Or.inr (Or.inr (Or.inr (Or.inl c_17)))
            | exact Or.inr (Or.inr (Or.inr (Or.inr (Or.inl c_22))))
            | exact Or.inr (Or.inr (Or.inr (Or.inr (Or.inr (Or.inl (Int32.not_le.mp c_29))))))
            | exact Or.inr (Or.inr (Or.inr (Or.inr (Or.inr (Or.inr ⟨c_37, Int32.not_le.mp c_59⟩)))))
        · skip
          refine WX.s1 rfl rfl ?_
          refine WX.s1 rfl rfl ?_
          refine WX.icmp rfl (fun c_22 => ?_) (fun c_22 => ?_)
          · skip
            refine WX.s1 rfl rfl ?_
            refine WX.ret1 rfl (k0 ?_)
            unfold pBad
            first
              | exact Or.inl c_1
              | exact Or.inr (Or.inl c_7)
              | exact Or.inr (Or.inr (Or.inl c_11))
              | exact Or.inr (Or.inr (Or.inr (Or.inl c_17)))
              | exact Or.inr (Or.inr (Or.inr (Or.inr (Or.inl c_22))))
              | exact Or.inr (Or.inr (Or.inr (Or.inr (Or.inr (Or.inl (Int32.not_le.mp c_29))))))
              | exact Or.inr (Or.inr (Or.inr (Or.inr (Or.inr (Or.inr ⟨c_37, Int32.not_le.mp c_59⟩)))))
          · skip
            refine WX.s1 rfl rfl ?_
            refine WX.s1 rfl rfl ?_
            refine WX.icmp rfl (fun c_29 => ?_) (fun c_29 => ?_)
            · skip
              refine WX.s1 rfl rfl ?_
              refine WX.s1 rfl rfl ?_
              refine WX.s1 rfl rfl ?_
              refine WX.if_ rfl (fun c_37 => ?_) (fun c_37 => ?_)
              · skip
                refine WX.s1 rfl rfl ?_
                refine WX.s1 (L' := [(0, .ref 0), (1, .int fl), (2, .int e), (3, .int cut), (4, .int 0)]) rfl rfl ?_
                refine WX.s1 rfl rfl ?_
                refine WX.if_ rfl (fun c_49 => absurd c_49 (by decide)) (fun c_49 => ?_)
                clear c_49
                refine WX.s1 rfl rfl ?_
                refine WX.s1 rfl rfl ?_
                refine WX.s1 rfl rfl ?_
                refine WX.s1 rfl rfl ?_
                refine WX.s1 rfl rfl ?_
                refine WX.s1 rfl rfl ?_
                refine WX.icmp rfl (fun c_59 => ?_) (fun c_59 => ?_)
                · skip
                  have hgood : ¬ pBad fl e cut := by
                    rintro (q | q | q | q | q | q | q)
                    · exact c_1 q
                    · exact c_7 q
                    · exact c_11 q
                    · exact c_17 q
                    · exact c_22 q
                    · exact (Int32.not_lt.mpr c_29) q
                    · exact (Int32.not_lt.mpr c_59) q.2
                  have hcut : ¬ cut < 1 := c_22
                  refine WX.s1 rfl rfl ?_
                  refine WX.get1 (fs := [.ref 1, .ref 3, .ref 5, .ref 7, .long 0, .ref 9, .ref 38, .ref 67, .ref 81, .ref 189, .int 2, .int 3]) rfl (ltN hn (by decide)) (F_h_0) rfl ?_
                  refine WX.callC (vs := [.ref 5]) rfl rfl rfl (Nat.le_of_ble_eq_true rfl) (P_h_nx.rcv (ltN hn (by decide))) ?_
                  refine w_dropN (ltN hn (by decide)) P_h_nx (fun h68 fr P_h68_nx => ?_)
                  have F_h68_0 : h68 0 = .inr (10, [.ref 1, .ref 3, .ref 5, .ref 7, .long 0, .ref 9, .ref 38, .ref 67, .ref 81, .ref 189, .int 2, .int 3]) := (fr _ (by first | decide | omega)).trans F_h_0
                  have F_h68_1 : h68 1 = .inr (7, [.ref 2, .int 0, .int 0, .long 0, .int 0]) := (fr _ (by first | decide | omega)).trans F_h_1
                  have F_h68_2 : h68 2 = .inl (0, 8000, .inl (fun _ => 0)) := (fr _ (by first | decide | omega)).trans F_h_2
                  have F_h68_7 : h68 7 = .inr (7, [.ref 8, .int 0, .int 0, .long 0, .int 0]) := (fr _ (by first | decide | omega)).trans F_h_7
                  have F_h68_8 : h68 8 = .inl (0, 8000, .inl (fun _ => 0)) := (fr _ (by first | decide | omega)).trans F_h_8
                  have F_h68_9 : h68 9 = .inr (9, [.ref 10, .ref 12, .ref 16, .ref 23, .ref 30, .ref 37]) := (fr _ (by first | decide | omega)).trans F_h_9
                  have F_h68_12 : h68 12 = .inr (0, [.ref 13, .ref 14, .ref 15, .int 0, .int 0]) := (fr _ (by first | decide | omega)).trans F_h_12
                  have F_h68_37 : h68 37 = .inl (1, 3, .inl lat0) := (fr _ (by first | decide | omega)).trans F_h_37
                  have F_h68_81 : h68 81 = .inr (6, [.ref 82, .ref 89, .ref 108, .ref 135, .ref 162, .ref 86, .ref 87, .int 0, .ref 88]) := (fr _ (by first | decide | omega)).trans F_h_81
                  have F_h68_82 : h68 82 = .inr (3, [.ref 83, .int 0, .ref 84, .ref 85, .int 0, .int 0, .int 0, .int 0, .int 0, .int 0, .int 0, .int 0, .int 0]) := (fr _ (by first | decide | omega)).trans F_h_82
                  have F_h68_83 : h68 83 = .inl (0, 16000, .inl (fun _ => 0)) := (fr _ (by first | decide | omega)).trans F_h_83
                  have F_h68_85 : h68 85 = .inl (1, 4096, .inl (fun _ => 0)) := (fr _ (by first | decide | omega)).trans F_h_85
                  have F_h68_86 : h68 86 = .inl (1, 3, .inl (fun _ => 0)) := (fr _ (by first | decide | omega)).trans F_h_86
                  have F_h68_87 : h68 87 = .inl (1, 3, .inl (fun _ => 0)) := (fr _ (by first | decide | omega)).trans F_h_87
                  have F_h68_88 : h68 88 = .inl (1, 12, .inl (fun _ => 0)) := (fr _ (by first | decide | omega)).trans F_h_88
                  have F_h68_89 : h68 89 = .inr (5, [.ref 90, .ref 91, .int 0, .ref 92, .ref 96, .ref 100, .ref 67, .ref 106, .int 0, .int 0, .int 0, .int 0]) := (fr _ (by first | decide | omega)).trans F_h_89
                  have F_h68_91 : h68 91 = .inl (1, 256, .inl (fun _ => 0)) := (fr _ (by first | decide | omega)).trans F_h_91
                  have F_h68_92 : h68 92 = .inr (0, [.ref 93, .ref 94, .ref 95, .int 0, .int 0]) := (fr _ (by first | decide | omega)).trans F_h_92
                  have F_h68_189 : h68 189 = .inl (1, 12, .inl (fun _ => 0)) := (fr _ (by first | decide | omega)).trans F_h_189
                  have F_h68_108 : h68 108 = .inr (1, [.ref (aBig + 3), .ref (aBig + 4), .int 9, .ref 109, .ref 110, .ref 113, .int 0, .int 0, .int 0, .ref 114, .ref 121, .ref 128, .ref 114, .ref 111, .int 0, .int 0, .int 0, .int 0]) := (fr _ (by first | decide | omega)).trans F_h_108
                  have F_h68_113 : h68 113 = .inl (1, 36, .inl (fun _ => 0)) := (fr _ (by first | decide | omega)).trans F_h_113
                  have F_h68_121 : h68 121 = .inr (8, [.int 35, .ref 122, .ref 123, .ref 124, .ref 125, .ref 126, .ref 127, .int 0, .int 0]) := (fr _ (by first | decide | omega)).trans F_h_121
                  have F_h68_16 : h68 16 = .inr (8, [.int 35, .ref 17, .ref 18, .ref 19, .ref 20, .ref 21, .ref 22, .int 0, .int 0]) := (fr _ (by first | decide | omega)).trans F_h_16
                  have F_h68_135 : h68 135 = .inr (1, [.ref (aBig + 5), .ref (aBig + 6), .int 8, .ref 136, .ref 137, .ref 140, .int 0, .int 0, .int 0, .ref 141, .ref 148, .ref 155, .ref 141, .ref 138, .int 0, .int 0, .int 0, .int 0]) := (fr _ (by first | decide | omega)).trans F_h_135
                  have F_h68_140 : h68 140 = .inl (1, 32, .inl (fun _ => 0)) := (fr _ (by first | decide | omega)).trans F_h_140
                  have F_h68_148 : h68 148 = .inr (8, [.int 31, .ref 149, .ref 150, .ref 151, .ref 152, .ref 153, .ref 154, .int 0, .int 0]) := (fr _ (by first | decide | omega)).trans F_h_148
                  have F_h68_23 : h68 23 = .inr (8, [.int 31, .ref 24, .ref 25, .ref 26, .ref 27, .ref 28, .ref 29, .int 0, .int 0]) := (fr _ (by first | decide | omega)).trans F_h_23
                  have F_h68_162 : h68 162 = .inr (1, [.ref (aBig + 7), .ref (aBig + 8), .int 9, .ref 163, .ref 164, .ref 167, .int 0, .int 0, .int 0, .ref 168, .ref 175, .ref 182, .ref 168, .ref 165, .int 0, .int 0, .int 0, .int 0]) := (fr _ (by first | decide | omega)).trans F_h_162
                  have F_h68_167 : h68 167 = .inl (1, 53, .inl (fun _ => 0)) := (fr _ (by first | decide | omega)).trans F_h_167
                  have F_h68_175 : h68 175 = .inr (8, [.int 52, .ref 176, .ref 177, .ref 178, .ref 179, .ref 180, .ref 181, .int 0, .int 0]) := (fr _ (by first | decide | omega)).trans F_h_175
                  have F_h68_30 : h68 30 = .inr (8, [.int 52, .ref 31, .ref 32, .ref 33, .ref 34, .ref 35, .ref 36, .int 0, .int 0]) := (fr _ (by first | decide | omega)).trans F_h_30
                  have FR_h68 : Fr h h68 (fun j => j < 190) := FR_h.zsub fr (fun j hj => by first | omega | (have hj : j = 5 := hj; omega))
                  show WX _ _ _ 71 [(0, .ref 0), (1, .int fl), (2, .int e), (3, .int cut), (4, .int 0)] [] (n, s, h68)
                  refine WX.s1 rfl rfl ?_
                  refine WX.s1 rfl rfl ?_
                  refine WX.s1 rfl rfl ?_
                  refine WX.callC (vs := [.ref 0, .int fl, .int e]) rfl rfl rfl (Nat.le_of_ble_eq_true rfl) (rcv_ok (ltN hn (by decide)) F_h68_0) ?_
                  refine x_head0 hn F_h68_0 F_h68_1 P_h68_nx (fun h74 fr P_h74_nx => ?_)
                  have F_h74_0 : h74 0 = .inr (10, [.ref 1, .ref 3, .ref 5, .ref 7, .long 0, .ref 9, .ref 38, .ref 67, .ref 81, .ref 189, .int 2, .int 3]) := (fr _ (by first | decide | omega)).trans F_h68_0
                  have F_h74_1 : h74 1 = .inr (7, [.ref 2, .int 0, .int 0, .long 0, .int 0]) := (fr _ (by first | decide | omega)).trans F_h68_1
                  have F_h74_2 : h74 2 = .inl (0, 8000, .inl (fun _ => 0)) := (fr _ (by first | decide | omega)).trans F_h68_2
                  have F_h74_7 : h74 7 = .inr (7, [.ref 8, .int 0, .int 0, .long 0, .int 0]) := (fr _ (by first | decide | omega)).trans F_h68_7
                  have F_h74_8 : h74 8 = .inl (0, 8000, .inl (fun _ => 0)) := (fr _ (by first | decide | omega)).trans F_h68_8
                  have F_h74_9 : h74 9 = .inr (9, [.ref 10, .ref 12, .ref 16, .ref 23, .ref 30, .ref 37]) := (fr _ (by first | decide | omega)).trans F_h68_9
                  have F_h74_12 : h74 12 = .inr (0, [.ref 13, .ref 14, .ref 15, .int 0, .int 0]) := (fr _ (by first | decide | omega)).trans F_h68_12
                  have F_h74_37 : h74 37 = .inl (1, 3, .inl lat0) := (fr _ (by first | decide | omega)).trans F_h68_37
                  have F_h74_81 : h74 81 = .inr (6, [.ref 82, .ref 89, .ref 108, .ref 135, .ref 162, .ref 86, .ref 87, .int 0, .ref 88]) := (fr _ (by first | decide | omega)).trans F_h68_81
                  have F_h74_82 : h74 82 = .inr (3, [.ref 83, .int 0, .ref 84, .ref 85, .int 0, .int 0, .int 0, .int 0, .int 0, .int 0, .int 0, .int 0, .int 0]) := (fr _ (by first | decide | omega)).trans F_h68_82
                  have F_h74_83 : h74 83 = .inl (0, 16000, .inl (fun _ => 0)) := (fr _ (by first | decide | omega)).trans F_h68_83
                  have F_h74_85 : h74 85 = .inl (1, 4096, .inl (fun _ => 0)) := (fr _ (by first | decide | omega)).trans F_h68_85
                  have F_h74_86 : h74 86 = .inl (1, 3, .inl (fun _ => 0)) := (fr _ (by first | decide | omega)).trans F_h68_86
                  have F_h74_87 : h74 87 = .inl (1, 3, .inl (fun _ => 0)) := (fr _ (by first | decide | omega)).trans F_h68_87
                  have F_h74_88 : h74 88 = .inl (1, 12, .inl (fun _ => 0)) := (fr _ (by first | decide | omega)).trans F_h68_88
                  have F_h74_89 : h74 89 = .inr (5, [.ref 90, .ref 91, .int 0, .ref 92, .ref 96, .ref 100, .ref 67, .ref 106, .int 0, .int 0, .int 0, .int 0]) := (fr _ (by first | decide | omega)).trans F_h68_89
                  have F_h74_91 : h74 91 = .inl (1, 256, .inl (fun _ => 0)) := (fr _ (by first | decide | omega)).trans F_h68_91
                  have F_h74_92 : h74 92 = .inr (0, [.ref 93, .ref 94, .ref 95, .int 0, .int 0]) := (fr _ (by first | decide | omega)).trans F_h68_92
                  have F_h74_189 : h74 189 = .inl (1, 12, .inl (fun _ => 0)) := (fr _ (by first | decide | omega)).trans F_h68_189
                  have F_h74_108 : h74 108 = .inr (1, [.ref (aBig + 3), .ref (aBig + 4), .int 9, .ref 109, .ref 110, .ref 113, .int 0, .int 0, .int 0, .ref 114, .ref 121, .ref 128, .ref 114, .ref 111, .int 0, .int 0, .int 0, .int 0]) := (fr _ (by first | decide | omega)).trans F_h68_108
                  have F_h74_113 : h74 113 = .inl (1, 36, .inl (fun _ => 0)) := (fr _ (by first | decide | omega)).trans F_h68_113
                  have F_h74_121 : h74 121 = .inr (8, [.int 35, .ref 122, .ref 123, .ref 124, .ref 125, .ref 126, .ref 127, .int 0, .int 0]) := (fr _ (by first | decide | omega)).trans F_h68_121
                  have F_h74_16 : h74 16 = .inr (8, [.int 35, .ref 17, .ref 18, .ref 19, .ref 20, .ref 21, .ref 22, .int 0, .int 0]) := (fr _ (by first | decide | omega)).trans F_h68_16
                  have F_h74_135 : h74 135 = .inr (1, [.ref (aBig + 5), .ref (aBig + 6), .int 8, .ref 136, .ref 137, .ref 140, .int 0, .int 0, .int 0, .ref 141, .ref 148, .ref 155, .ref 141, .ref 138, .int 0, .int 0, .int 0, .int 0]) := (fr _ (by first | decide | omega)).trans F_h68_135
                  have F_h74_140 : h74 140 = .inl (1, 32, .inl (fun _ => 0)) := (fr _ (by first | decide | omega)).trans F_h68_140
                  have F_h74_148 : h74 148 = .inr (8, [.int 31, .ref 149, .ref 150, .ref 151, .ref 152, .ref 153, .ref 154, .int 0, .int 0]) := (fr _ (by first | decide | omega)).trans F_h68_148
                  have F_h74_23 : h74 23 = .inr (8, [.int 31, .ref 24, .ref 25, .ref 26, .ref 27, .ref 28, .ref 29, .int 0, .int 0]) := (fr _ (by first | decide | omega)).trans F_h68_23
                  have F_h74_162 : h74 162 = .inr (1, [.ref (aBig + 7), .ref (aBig + 8), .int 9, .ref 163, .ref 164, .ref 167, .int 0, .int 0, .int 0, .ref 168, .ref 175, .ref 182, .ref 168, .ref 165, .int 0, .int 0, .int 0, .int 0]) := (fr _ (by first | decide | omega)).trans F_h68_162
                  have F_h74_167 : h74 167 = .inl (1, 53, .inl (fun _ => 0)) := (fr _ (by first | decide | omega)).trans F_h68_167
                  have F_h74_175 : h74 175 = .inr (8, [.int 52, .ref 176, .ref 177, .ref 178, .ref 179, .ref 180, .ref 181, .int 0, .int 0]) := (fr _ (by first | decide | omega)).trans F_h68_175
                  have F_h74_30 : h74 30 = .inr (8, [.int 52, .ref 31, .ref 32, .ref 33, .ref 34, .ref 35, .ref 36, .int 0, .int 0]) := (fr _ (by first | decide | omega)).trans F_h68_30
                  have FR_h74 : Fr h h74 (fun j => j < 190) := FR_h68.zsub fr (fun j hj => by first | omega | (have hj : j = 5 := hj; omega))
                  show WX _ _ _ 77 [(0, .ref 0), (1, .int fl), (2, .int e), (3, .int cut), (4, .int 0)] [] (n, s, h74)
                  refine WX.s1 rfl rfl ?_
                  refine WX.get1 (fs := [.ref 1, .ref 3, .ref 5, .ref 7, .long 0, .ref 9, .ref 38, .ref 67, .ref 81, .ref 189, .int 2, .int 3]) rfl (ltN hn (by decide)) (F_h74_0) rfl ?_
                  refine WX.s1 rfl rfl ?_
                  refine WX.get1 (fs := [.ref 1, .ref 3, .ref 5, .ref 7, .long 0, .ref 9, .ref 38, .ref 67, .ref 81, .ref 189, .int 2, .int 3]) rfl (ltN hn (by decide)) (F_h74_0) rfl ?_
                  refine WX.callC (vs := [.ref 81, .ref 9]) rfl rfl rfl (Nat.le_of_ble_eq_true rfl) (rcv_ok (ltN hn (by decide)) F_h74_81) ?_
                  refine x_pbeg0 hn F_h74_81 F_h74_89 F_h74_92 F_h74_9 F_h74_12 F_h74_108 F_h74_121 F_h74_16 F_h74_135 F_h74_148 F_h74_23 F_h74_162 F_h74_175 F_h74_30 F_h74_37 F_h74_86 F_h74_88 (fun h85 fr F_h85_92 F_h85_121 F_h85_148 F_h85_175 ⟨g86, F_h85_86⟩ ⟨g88, F_h85_88⟩ => ?_)
                  have F_h85_0 : h85 0 = .inr (10, [.ref 1, .ref 3, .ref 5, .ref 7, .long 0, .ref 9, .ref 38, .ref 67, .ref 81, .ref 189, .int 2, .int 3]) := (fr _ (by first | decide | omega)).trans F_h74_0
                  have F_h85_1 : h85 1 = .inr (7, [.ref 2, .int 0, .int 0, .long 0, .int 0]) := (fr _ (by first | decide | omega)).trans F_h74_1
                  have F_h85_2 : h85 2 = .inl (0, 8000, .inl (fun _ => 0)) := (fr _ (by first | decide | omega)).trans F_h74_2
                  have F_h85_7 : h85 7 = .inr (7, [.ref 8, .int 0, .int 0, .long 0, .int 0]) := (fr _ (by first | decide | omega)).trans F_h74_7
                  have F_h85_8 : h85 8 = .inl (0, 8000, .inl (fun _ => 0)) := (fr _ (by first | decide | omega)).trans F_h74_8
                  have F_h85_81 : h85 81 = .inr (6, [.ref 82, .ref 89, .ref 108, .ref 135, .ref 162, .ref 86, .ref 87, .int 0, .ref 88]) := (fr _ (by first | decide | omega)).trans F_h74_81
                  have F_h85_82 : h85 82 = .inr (3, [.ref 83, .int 0, .ref 84, .ref 85, .int 0, .int 0, .int 0, .int 0, .int 0, .int 0, .int 0, .int 0, .int 0]) := (fr _ (by first | decide | omega)).trans F_h74_82
                  have F_h85_83 : h85 83 = .inl (0, 16000, .inl (fun _ => 0)) := (fr _ (by first | decide | omega)).trans F_h74_83
                  have F_h85_85 : h85 85 = .inl (1, 4096, .inl (fun _ => 0)) := (fr _ (by first | decide | omega)).trans F_h74_85
                  have F_h85_87 : h85 87 = .inl (1, 3, .inl (fun _ => 0)) := (fr _ (by first | decide | omega)).trans F_h74_87
                  have F_h85_89 : h85 89 = .inr (5, [.ref 90, .ref 91, .int 0, .ref 92, .ref 96, .ref 100, .ref 67, .ref 106, .int 0, .int 0, .int 0, .int 0]) := (fr _ (by first | decide | omega)).trans F_h74_89
                  have F_h85_91 : h85 91 = .inl (1, 256, .inl (fun _ => 0)) := (fr _ (by first | decide | omega)).trans F_h74_91
                  have F_h85_189 : h85 189 = .inl (1, 12, .inl (fun _ => 0)) := (fr _ (by first | decide | omega)).trans F_h74_189
                  have F_h85_108 : h85 108 = .inr (1, [.ref (aBig + 3), .ref (aBig + 4), .int 9, .ref 109, .ref 110, .ref 113, .int 0, .int 0, .int 0, .ref 114, .ref 121, .ref 128, .ref 114, .ref 111, .int 0, .int 0, .int 0, .int 0]) := (fr _ (by first | decide | omega)).trans F_h74_108
                  have F_h85_113 : h85 113 = .inl (1, 36, .inl (fun _ => 0)) := (fr _ (by first | decide | omega)).trans F_h74_113
                  have F_h85_135 : h85 135 = .inr (1, [.ref (aBig + 5), .ref (aBig + 6), .int 8, .ref 136, .ref 137, .ref 140, .int 0, .int 0, .int 0, .ref 141, .ref 148, .ref 155, .ref 141, .ref 138, .int 0, .int 0, .int 0, .int 0]) := (fr _ (by first | decide | omega)).trans F_h74_135
                  have F_h85_140 : h85 140 = .inl (1, 32, .inl (fun _ => 0)) := (fr _ (by first | decide | omega)).trans F_h74_140
                  have F_h85_162 : h85 162 = .inr (1, [.ref (aBig + 7), .ref (aBig + 8), .int 9, .ref 163, .ref 164, .ref 167, .int 0, .int 0, .int 0, .ref 168, .ref 175, .ref 182, .ref 168, .ref 165, .int 0, .int 0, .int 0, .int 0]) := (fr _ (by first | decide | omega)).trans F_h74_162
                  have F_h85_167 : h85 167 = .inl (1, 53, .inl (fun _ => 0)) := (fr _ (by first | decide | omega)).trans F_h74_167
                  have P_h85_nx : RowN h85 5 12000 (hCnt fl) := P_h74_nx.zfr fr (by first | decide | omega) (by first | decide | omega)
                  have FR_h85 : Fr h h85 (fun j => j < 190) := FR_h74.zsub fr (fun j hj => by first | omega | (have hj : j = 5 := hj; omega))
                  show WX _ _ _ 88 [(0, .ref 0), (1, .int fl), (2, .int e), (3, .int cut), (4, .int 0)] [] (n, s, h85)
                  refine WX.s1 rfl rfl ?_
                  refine WX.get1 (fs := [.ref 1, .ref 3, .ref 5, .ref 7, .long 0, .ref 9, .ref 38, .ref 67, .ref 81, .ref 189, .int 2, .int 3]) rfl (ltN hn (by decide)) (F_h85_0) rfl ?_
                  refine WX.get1 (fs := [.ref 82, .ref 89, .ref 108, .ref 135, .ref 162, .ref 86, .ref 87, .int 0, .ref 88]) rfl (ltN hn (by decide)) (F_h85_81) rfl ?_
                  refine WX.s1 rfl rfl ?_
                  refine WX.get1 (fs := [.ref 1, .ref 3, .ref 5, .ref 7, .long 0, .ref 9, .ref 38, .ref 67, .ref 81, .ref 189, .int 2, .int 3]) rfl (ltN hn (by decide)) (F_h85_0) rfl ?_
                  refine WX.s1 rfl rfl ?_
                  refine WX.get1 (fs := [.ref 1, .ref 3, .ref 5, .ref 7, .long 0, .ref 9, .ref 38, .ref 67, .ref 81, .ref 189, .int 2, .int 3]) rfl (ltN hn (by decide)) (F_h85_0) rfl ?_
                  refine WX.callC (vs := [.ref 82, .ref 7, .ref 1]) rfl rfl rfl (Nat.le_of_ble_eq_true rfl) (rcv_ok (ltN hn (by decide)) F_h85_82) ?_
                  refine x_load0 hn F_h85_82 F_h85_83 F_h85_85 F_h85_7 F_h85_8 F_h85_1 F_h85_2 (fun h103 fr F_h103_82 ⟨g83, F_h103_83⟩ ⟨g85, F_h103_85⟩ => ?_)
                  have F_h103_0 : h103 0 = .inr (10, [.ref 1, .ref 3, .ref 5, .ref 7, .long 0, .ref 9, .ref 38, .ref 67, .ref 81, .ref 189, .int 2, .int 3]) := (fr _ (by first | decide | omega)).trans F_h85_0
                  have F_h103_1 : h103 1 = .inr (7, [.ref 2, .int 0, .int 0, .long 0, .int 0]) := (fr _ (by first | decide | omega)).trans F_h85_1
                  have F_h103_7 : h103 7 = .inr (7, [.ref 8, .int 0, .int 0, .long 0, .int 0]) := (fr _ (by first | decide | omega)).trans F_h85_7
                  have F_h103_81 : h103 81 = .inr (6, [.ref 82, .ref 89, .ref 108, .ref 135, .ref 162, .ref 86, .ref 87, .int 0, .ref 88]) := (fr _ (by first | decide | omega)).trans F_h85_81
                  have F_h103_86 : h103 86 = .inl (1, 3, .inl g86) := (fr _ (by first | decide | omega)).trans F_h85_86
                  have F_h103_87 : h103 87 = .inl (1, 3, .inl (fun _ => 0)) := (fr _ (by first | decide | omega)).trans F_h85_87
                  have F_h103_88 : h103 88 = .inl (1, 12, .inl g88) := (fr _ (by first | decide | omega)).trans F_h85_88
                  have F_h103_89 : h103 89 = .inr (5, [.ref 90, .ref 91, .int 0, .ref 92, .ref 96, .ref 100, .ref 67, .ref 106, .int 0, .int 0, .int 0, .int 0]) := (fr _ (by first | decide | omega)).trans F_h85_89
                  have F_h103_91 : h103 91 = .inl (1, 256, .inl (fun _ => 0)) := (fr _ (by first | decide | omega)).trans F_h85_91
                  have F_h103_92 : h103 92 = .inr (0, [.ref 93, .ref 94, .ref 95, .int 0, .int 0]) := (fr _ (by first | decide | omega)).trans F_h85_92
                  have F_h103_189 : h103 189 = .inl (1, 12, .inl (fun _ => 0)) := (fr _ (by first | decide | omega)).trans F_h85_189
                  have F_h103_108 : h103 108 = .inr (1, [.ref (aBig + 3), .ref (aBig + 4), .int 9, .ref 109, .ref 110, .ref 113, .int 0, .int 0, .int 0, .ref 114, .ref 121, .ref 128, .ref 114, .ref 111, .int 0, .int 0, .int 0, .int 0]) := (fr _ (by first | decide | omega)).trans F_h85_108
                  have F_h103_113 : h103 113 = .inl (1, 36, .inl (fun _ => 0)) := (fr _ (by first | decide | omega)).trans F_h85_113
                  have F_h103_135 : h103 135 = .inr (1, [.ref (aBig + 5), .ref (aBig + 6), .int 8, .ref 136, .ref 137, .ref 140, .int 0, .int 0, .int 0, .ref 141, .ref 148, .ref 155, .ref 141, .ref 138, .int 0, .int 0, .int 0, .int 0]) := (fr _ (by first | decide | omega)).trans F_h85_135
                  have F_h103_140 : h103 140 = .inl (1, 32, .inl (fun _ => 0)) := (fr _ (by first | decide | omega)).trans F_h85_140
                  have F_h103_162 : h103 162 = .inr (1, [.ref (aBig + 7), .ref (aBig + 8), .int 9, .ref 163, .ref 164, .ref 167, .int 0, .int 0, .int 0, .ref 168, .ref 175, .ref 182, .ref 168, .ref 165, .int 0, .int 0, .int 0, .int 0]) := (fr _ (by first | decide | omega)).trans F_h85_162
                  have F_h103_167 : h103 167 = .inl (1, 53, .inl (fun _ => 0)) := (fr _ (by first | decide | omega)).trans F_h85_167
                  have P_h103_nx : RowN h103 5 12000 (hCnt fl) := P_h85_nx.zfr fr (by first | decide | omega) (by first | decide | omega)
                  have FR_h103 : Fr h h103 (fun j => j < 190) := FR_h85.zsub fr (fun j hj => by first | omega | (have hj : j = 5 := hj; omega))
                  show WX _ _ _ 106 [(0, .ref 0), (1, .int fl), (2, .int e), (3, .int cut), (4, .int 0)] [] (n, s, h103)
                  refine WX.s1 rfl rfl ?_
                  refine WX.get1 (fs := [.ref 1, .ref 3, .ref 5, .ref 7, .long 0, .ref 9, .ref 38, .ref 67, .ref 81, .ref 189, .int 2, .int 3]) rfl (ltN hn (by decide)) (F_h103_0) rfl ?_
                  refine WX.get1 (fs := [.ref 82, .ref 89, .ref 108, .ref 135, .ref 162, .ref 86, .ref 87, .int 0, .ref 88]) rfl (ltN hn (by decide)) (F_h103_81) rfl ?_
                  refine WX.s1 rfl rfl ?_
                  refine WX.get1 (fs := [.ref 1, .ref 3, .ref 5, .ref 7, .long 0, .ref 9, .ref 38, .ref 67, .ref 81, .ref 189, .int 2, .int 3]) rfl (ltN hn (by decide)) (F_h103_0) rfl ?_
                  refine WX.s1 rfl rfl ?_
                  refine WX.get1 (fs := [.ref 1, .ref 3, .ref 5, .ref 7, .long 0, .ref 9, .ref 38, .ref 67, .ref 81, .ref 189, .int 2, .int 3]) rfl (ltN hn (by decide)) (F_h103_0) rfl ?_
                  refine WX.s1 rfl rfl ?_
                  refine WX.if_ rfl (fun c_123 => ?_) (fun c_123 => absurd (by decide) c_123)
                  clear c_123
                  refine WX.s1 rfl rfl ?_
                  refine WX.s1 rfl rfl ?_
                  refine WX.s1 rfl rfl ?_
                  refine WX.s1 rfl rfl ?_
                  refine WX.s1 rfl rfl ?_
                  refine WX.nm1 (fun wi => ?_)
                  refine WX.callC (vs := [.ref 82, .int 2, .int 3, .int wi]) rfl rfl rfl (Nat.le_of_ble_eq_true rfl) (rcv_ok (ltN hn (by decide)) F_h103_82) ?_
                  refine x_obey hn F_h103_82 (fun h142 fr F_h142_82 => ?_)
                  have F_h142_0 : h142 0 = .inr (10, [.ref 1, .ref 3, .ref 5, .ref 7, .long 0, .ref 9, .ref 38, .ref 67, .ref 81, .ref 189, .int 2, .int 3]) := (fr _ (by first | decide | omega)).trans F_h103_0
                  have F_h142_1 : h142 1 = .inr (7, [.ref 2, .int 0, .int 0, .long 0, .int 0]) := (fr _ (by first | decide | omega)).trans F_h103_1
                  have F_h142_7 : h142 7 = .inr (7, [.ref 8, .int 0, .int 0, .long 0, .int 0]) := (fr _ (by first | decide | omega)).trans F_h103_7
                  have F_h142_81 : h142 81 = .inr (6, [.ref 82, .ref 89, .ref 108, .ref 135, .ref 162, .ref 86, .ref 87, .int 0, .ref 88]) := (fr _ (by first | decide | omega)).trans F_h103_81
                  have F_h142_86 : h142 86 = .inl (1, 3, .inl g86) := (fr _ (by first | decide | omega)).trans F_h103_86
                  have F_h142_87 : h142 87 = .inl (1, 3, .inl (fun _ => 0)) := (fr _ (by first | decide | omega)).trans F_h103_87
                  have F_h142_88 : h142 88 = .inl (1, 12, .inl g88) := (fr _ (by first | decide | omega)).trans F_h103_88
                  have F_h142_89 : h142 89 = .inr (5, [.ref 90, .ref 91, .int 0, .ref 92, .ref 96, .ref 100, .ref 67, .ref 106, .int 0, .int 0, .int 0, .int 0]) := (fr _ (by first | decide | omega)).trans F_h103_89
                  have F_h142_91 : h142 91 = .inl (1, 256, .inl (fun _ => 0)) := (fr _ (by first | decide | omega)).trans F_h103_91
                  have F_h142_92 : h142 92 = .inr (0, [.ref 93, .ref 94, .ref 95, .int 0, .int 0]) := (fr _ (by first | decide | omega)).trans F_h103_92
                  have F_h142_189 : h142 189 = .inl (1, 12, .inl (fun _ => 0)) := (fr _ (by first | decide | omega)).trans F_h103_189
                  have F_h142_108 : h142 108 = .inr (1, [.ref (aBig + 3), .ref (aBig + 4), .int 9, .ref 109, .ref 110, .ref 113, .int 0, .int 0, .int 0, .ref 114, .ref 121, .ref 128, .ref 114, .ref 111, .int 0, .int 0, .int 0, .int 0]) := (fr _ (by first | decide | omega)).trans F_h103_108
                  have F_h142_113 : h142 113 = .inl (1, 36, .inl (fun _ => 0)) := (fr _ (by first | decide | omega)).trans F_h103_113
                  have F_h142_135 : h142 135 = .inr (1, [.ref (aBig + 5), .ref (aBig + 6), .int 8, .ref 136, .ref 137, .ref 140, .int 0, .int 0, .int 0, .ref 141, .ref 148, .ref 155, .ref 141, .ref 138, .int 0, .int 0, .int 0, .int 0]) := (fr _ (by first | decide | omega)).trans F_h103_135
                  have F_h142_140 : h142 140 = .inl (1, 32, .inl (fun _ => 0)) := (fr _ (by first | decide | omega)).trans F_h103_140
                  have F_h142_162 : h142 162 = .inr (1, [.ref (aBig + 7), .ref (aBig + 8), .int 9, .ref 163, .ref 164, .ref 167, .int 0, .int 0, .int 0, .ref 168, .ref 175, .ref 182, .ref 168, .ref 165, .int 0, .int 0, .int 0, .int 0]) := (fr _ (by first | decide | omega)).trans F_h103_162
                  have F_h142_167 : h142 167 = .inl (1, 53, .inl (fun _ => 0)) := (fr _ (by first | decide | omega)).trans F_h103_167
                  have P_h142_nx : RowN h142 5 12000 (hCnt fl) := P_h103_nx.zfr fr (by first | decide | omega) (by first | decide | omega)
                  have FR_h142 : Fr h h142 (fun j => j < 190) := FR_h103.zsub fr (fun j hj => by first | omega | (have hj : j = 5 := hj; omega))
                  show WX _ _ _ 145 [(0, .ref 0), (1, .int fl), (2, .int e), (3, .int cut), (4, .int 0)] [] (n, s, h142)
                  refine WX.s1 rfl rfl ?_
                  refine WX.get1 (fs := [.ref 1, .ref 3, .ref 5, .ref 7, .long 0, .ref 9, .ref 38, .ref 67, .ref 81, .ref 189, .int 2, .int 3]) rfl (ltN hn (by decide)) (F_h142_0) rfl ?_
                  refine WX.get1 (fs := [.ref 8, .int 0, .int 0, .long 0, .int 0]) rfl (ltN hn (by decide)) (F_h142_7) rfl ?_
                  refine WX.s1 rfl rfl ?_
                  refine WX.get1 (fs := [.ref 1, .ref 3, .ref 5, .ref 7, .long 0, .ref 9, .ref 38, .ref 67, .ref 81, .ref 189, .int 2, .int 3]) rfl (ltN hn (by decide)) (F_h142_0) rfl ?_
                  refine WX.get1 (fs := [.ref 2, .int 0, .int 0, .long 0, .int 0]) rfl (ltN hn (by decide)) (F_h142_1) rfl ?_
                  refine WX.s1 rfl rfl ?_
                  refine WX.s1 (L' := [(0, .ref 0), (1, .int fl), (2, .int e), (3, .int cut), (4, .int 0), (5, .int (0 + 0))]) rfl rfl ?_
                  refine WX.s1 rfl rfl ?_
                  refine WX.get1 (fs := [.ref 1, .ref 3, .ref 5, .ref 7, .long 0, .ref 9, .ref 38, .ref 67, .ref 81, .ref 189, .int 2, .int 3]) rfl (ltN hn (by decide)) (F_h142_0) rfl ?_
                  refine WX.get1 (fs := [.ref 8, .int 0, .int 0, .long 0, .int 0]) rfl (ltN hn (by decide)) (F_h142_7) rfl ?_
                  refine WX.s1 (L' := [(0, .ref 0), (1, .int fl), (2, .int e), (3, .int cut), (4, .int 0), (5, .int (0 + 0)), (6, .int 0)]) rfl rfl ?_
                  refine WX.s1 rfl rfl ?_
                  refine WX.s1 rfl rfl ?_
                  refine WX.s1 rfl rfl ?_
                  refine WX.s1 rfl rfl ?_
                  refine WX.s1 rfl rfl ?_
                  refine WX.isN (L' := fun x180 => [(0, .ref 0), (1, .int fl), (2, .int e), (3, .int cut), (4, .int 0), (5, .int (0 + 0)), (6, .int 0), (7, .int x180)]) rfl (fun _ => rfl) (fun x180 e_x180 => ?_)
                  try dsimp only at e_x180
                  obtain rfl : x180 = 0 := e_x180.trans (min0 hcut)
                  clear e_x180
                  refine WX.s1 rfl rfl ?_
                  refine WX.get1 (fs := [.ref 1, .ref 3, .ref 5, .ref 7, .long 0, .ref 9, .ref 38, .ref 67, .ref 81, .ref 189, .int 2, .int 3]) rfl (ltN hn (by decide)) (F_h142_0) rfl ?_
                  refine WX.s1 rfl rfl ?_
                  refine WX.get1 (fs := [.ref 1, .ref 3, .ref 5, .ref 7, .long 0, .ref 9, .ref 38, .ref 67, .ref 81, .ref 189, .int 2, .int 3]) rfl (ltN hn (by decide)) (F_h142_0) rfl ?_
                  refine WX.s1 rfl rfl ?_
                  refine WX.s1 rfl rfl ?_
                  refine WX.s1 rfl rfl ?_
                  refine WX.s1 rfl rfl ?_
                  refine WX.icmp rfl (fun c_198 => absurd c_198 (by decide)) (fun c_198 => ?_)
                  clear c_198
                  refine WX.s1 rfl rfl ?_
                  refine WX.s1 rfl rfl ?_
                  refine WX.callC (vs := [.ref 81, .ref 5, .int 0, .int 0, .int 1]) rfl rfl rfl (Nat.le_of_ble_eq_true rfl) (rcv_ok (ltN hn (by decide)) F_h142_81) ?_
                  refine x_block0 hn (by have := hCnt_le fl; omega) F_h142_81 F_h142_82 F_h142_86 F_h142_87 F_h142_88 F_h142_89 F_h142_91 F_h142_92 F_h142_108 F_h142_113 F_h142_135 F_h142_140 F_h142_162 F_h142_167 P_h142_nx (fun h206 fr P_h206_nx F_h206_81 ⟨g206, F_h206_88⟩ => ?_)
                  have F_h206_0 : h206 0 = .inr (10, [.ref 1, .ref 3, .ref 5, .ref 7, .long 0, .ref 9, .ref 38, .ref 67, .ref 81, .ref 189, .int 2, .int 3]) := (fr _ (by first | decide | omega)).trans F_h142_0
                  have F_h206_1 : h206 1 = .inr (7, [.ref 2, .int 0, .int 0, .long 0, .int 0]) := (fr _ (by first | decide | omega)).trans F_h142_1
                  have F_h206_189 : h206 189 = .inl (1, 12, .inl (fun _ => 0)) := (fr _ (by first | decide | omega)).trans F_h142_189
                  have FR_h206 : Fr h h206 (fun j => j < 190) := FR_h142.zsub fr (fun j hj => by first | omega | (have hj : j = 5 := hj; omega))
                  show WX _ _ _ 209 [(0, .ref 0), (1, .int fl), (2, .int e), (3, .int cut), (4, .int 0), (5, .int (0 + 0)), (6, .int 0), (7, .int 0)] [] (n, s, h206)
                  refine WX.s1 rfl rfl ?_
                  refine WX.s1 (L' := [(0, .ref 0), (1, .int fl), (2, .int e), (3, .int cut), (4, .int 0), (5, .int (0 + 0)), (6, .int 0), (7, .int 0)]) rfl rfl ?_
                  refine WX.s1 rfl rfl ?_
                  refine WX.s1 rfl rfl ?_
                  refine WX.icmp rfl (fun c_217 => ?_) (fun c_217 => absurd (by decide) c_217)
                  clear c_217
                  refine WX.s1 rfl rfl ?_
                  refine WX.s1 rfl rfl ?_
                  refine WX.s1 rfl rfl ?_
                  refine WX.if_ rfl (fun c_233 => ?_) (fun c_233 => ?_)
                  · skip
                    obtain ⟨ho5, hd5, F_h206_5⟩ := P_h206_nx.zobj
                    have ec : hCnt fl + 3 = pCnt fl := by
                      unfold pCnt; rw [if_pos c_233]
                    refine WX.s1 rfl rfl ?_
                    refine WX.get1 (fs := [.ref 1, .ref 3, .ref 5, .ref 7, .long 0, .ref 9, .ref 38, .ref 67, .ref 81, .ref 189, .int 2, .int 3]) rfl (ltN hn (by decide)) (F_h206_0) rfl ?_
                    refine WX.get1 (fs := [.ref 6, .int (nI (hCnt fl + 3)), .int 0, .long ho5, .int hd5]) rfl (ltN hn (by decide)) (F_h206_5) rfl ?_
                    refine WX.if_ rfl (fun c_258 => ?_) (fun c_258 => absurd (by decide) c_258)
                    clear c_258
                    refine WX.s1 rfl rfl ?_
                    refine WX.get1 (fs := [.ref 1, .ref 3, .ref 5, .ref 7, .long 0, .ref 9, .ref 38, .ref 67, .ref 81, .ref 189, .int 2, .int 3]) rfl (ltN hn (by decide)) (F_h206_0) rfl ?_
                    refine WX.get1 (fs := [.ref 82, .ref 89, .ref 108, .ref 135, .ref 162, .ref 86, .ref 87, .int 0, .ref 88]) rfl (ltN hn (by decide)) (F_h206_81) rfl ?_
                    refine WX.s1 rfl rfl ?_
                    refine WX.s1 rfl rfl ?_
                    refine WX.get1 (fs := [.ref 1, .ref 3, .ref 5, .ref 7, .long 0, .ref 9, .ref 38, .ref 67, .ref 81, .ref 189, .int 2, .int 3]) rfl (ltN hn (by decide)) (F_h206_0) rfl ?_
                    refine WX.s1 rfl rfl ?_
                    refine WX.s1 rfl rfl ?_
                    refine WX.copyN rfl (Nat.le_of_ble_eq_true rfl) (Or.inl (ltN hn (by decide))) (F_h206_88) (ltN hn (by decide)) (F_h206_189) (p := 0) (q := 0) (c := 12) rfl rfl rfl (by decide) (by decide) (by decide) (by decide) (fun g278 h278 e_g278 e_h278 => ?_)
                    have F_h278_0 : h278 0 = .inr (10, [.ref 1, .ref 3, .ref 5, .ref 7, .long 0, .ref 9, .ref 38, .ref 67, .ref 81, .ref 189, .int 2, .int 3]) := by rw [e_h278, va_up_neq (by decide)]; exact F_h206_0
                    have F_h278_1 : h278 1 = .inr (7, [.ref 2, .int 0, .int 0, .long 0, .int 0]) := by rw [e_h278, va_up_neq (by decide)]; exact F_h206_1
                    have F_h278_81 : h278 81 = .inr (6, [.ref 82, .ref 89, .ref 108, .ref 135, .ref 162, .ref 86, .ref 87, .int 0, .ref 88]) := by rw [e_h278, va_up_neq (by decide)]; exact F_h206_81
                    have F_h278_88 : h278 88 = .inl (1, 12, .inl g206) := by rw [e_h278, va_up_neq (by decide)]; exact F_h206_88
                    have F_h278_189 : h278 189 = .inl (1, 12, .inl g278) := by rw [e_h278]; exact va_up_eq
                    have F_h278_5 : h278 5 = .inr (7, [.ref 6, .int (nI (hCnt fl + 3)), .int 0, .long ho5, .int hd5]) := by rw [e_h278, va_up_neq (by decide)]; exact F_h206_5
                    have P_h278_nx : RowN h278 5 12000 (hCnt fl + 3) := P_h206_nx.zfr (Fr.of e_h278) (by decide) (by decide)
                    have FR_h278 : Fr h h278 (fun j => j < 190) := FR_h206.zup e_h278 (by first | exact rfl | exact Or.inl rfl | exact Or.inr rfl | exact ⟨by decide, by decide⟩ | decide | omega)
                    clear F_h206_0 F_h206_1 F_h206_81 F_h206_88 F_h206_189 F_h206_5 P_h206_nx FR_h206 e_h278
                    refine WX.s1 rfl rfl ?_
                    rw [ec] at F_h278_5
                    refine WX.callC (vs := [.ref 0]) rfl rfl rfl (Nat.le_of_ble_eq_true rfl) (rcv_ok (ltN hn (by decide)) F_h278_0) ?_
                    refine x_out hn F_h278_0 F_h278_5 (fun h282 fr => ?_)
                    have FR_h282 : Fr h h282 (fun j => j < 190) := FR_h278.zsub fr (fun j hj => by first | omega | (have hj : j = 5 := hj; omega))
                    show WX _ _ _ 285 [(0, .ref 0), (1, .int fl), (2, .int e), (3, .int cut), (4, .int 0), (5, .int (0 + 0)), (6, .int 0), (7, .int 0)] [.int (nI (pCnt fl))] (n, s, h282)
                    exact WX.ret1 rfl (k1 h282 hgood FR_h282)
                  · skip
                    refine WX.s1 rfl rfl ?_
                    refine WX.get1 (fs := [.ref 1, .ref 3, .ref 5, .ref 7, .long 0, .ref 9, .ref 38, .ref 67, .ref 81, .ref 189, .int 2, .int 3]) rfl (ltN hn (by decide)) (F_h206_0) rfl ?_
                    refine WX.s1 rfl rfl ?_
                    refine WX.get1 (fs := [.ref 1, .ref 3, .ref 5, .ref 7, .long 0, .ref 9, .ref 38, .ref 67, .ref 81, .ref 189, .int 2, .int 3]) rfl (ltN hn (by decide)) (F_h206_0) rfl ?_
                    refine WX.callC (vs := [.ref 1]) rfl rfl rfl (Nat.le_of_ble_eq_true rfl) rfl ?_
                    refine x_sum0 hn F_h206_1 (fun x244 => ?_)
                    show WX _ _ _ 247 [(0, .ref 0), (1, .int fl), (2, .int e), (3, .int cut), (4, .int 0), (5, .int (0 + 0)), (6, .int 0), (7, .int 0)] [.long x244, .ref 5] (n, s, h206)
                    refine WX.s1 rfl rfl ?_
                    refine WX.callC (vs := [.ref 5, .long x244, .int 4]) rfl rfl rfl (Nat.le_of_ble_eq_true rfl) (P_h206_nx.rcv (ltN hn (by decide))) ?_
                    refine w_putNumN (m := 4) (ltN hn (by decide)) P_h206_nx (by have := hCnt_le fl; omega) (by decide) (by decide) (fun h248 fr P_h248_nx => ?_)
                    have F_h248_0 : h248 0 = .inr (10, [.ref 1, .ref 3, .ref 5, .ref 7, .long 0, .ref 9, .ref 38, .ref 67, .ref 81, .ref 189, .int 2, .int 3]) := (fr _ (by first | decide | omega)).trans F_h206_0
                    have F_h248_1 : h248 1 = .inr (7, [.ref 2, .int 0, .int 0, .long 0, .int 0]) := (fr _ (by first | decide | omega)).trans F_h206_1
                    have F_h248_81 : h248 81 = .inr (6, [.ref 82, .ref 89, .ref 108, .ref 135, .ref 162, .ref 86, .ref 87, .int 0, .ref 88]) := (fr _ (by first | decide | omega)).trans F_h206_81
                    have F_h248_88 : h248 88 = .inl (1, 12, .inl g206) := (fr _ (by first | decide | omega)).trans F_h206_88
                    have F_h248_189 : h248 189 = .inl (1, 12, .inl (fun _ => 0)) := (fr _ (by first | decide | omega)).trans F_h206_189
                    have FR_h248 : Fr h h248 (fun j => j < 190) := FR_h206.zsub fr (fun j hj => by first | omega | (have hj : j = 5 := hj; omega))
                    show WX _ _ _ 251 [(0, .ref 0), (1, .int fl), (2, .int e), (3, .int cut), (4, .int 0), (5, .int (0 + 0)), (6, .int 0), (7, .int 0)] [] (n, s, h248)
                    obtain ⟨ho5, hd5, F_h248_5⟩ := P_h248_nx.zobj
                    have ec : hCnt fl + 3 + 4 = pCnt fl := by
                      unfold pCnt; rw [if_neg c_233]
                    refine WX.s1 rfl rfl ?_
                    refine WX.get1 (fs := [.ref 1, .ref 3, .ref 5, .ref 7, .long 0, .ref 9, .ref 38, .ref 67, .ref 81, .ref 189, .int 2, .int 3]) rfl (ltN hn (by decide)) (F_h248_0) rfl ?_
                    refine WX.get1 (fs := [.ref 6, .int (nI (hCnt fl + 3 + 4)), .int 0, .long ho5, .int hd5]) rfl (ltN hn (by decide)) (F_h248_5) rfl ?_
                    refine WX.if_ rfl (fun c_258 => ?_) (fun c_258 => absurd (by decide) c_258)
                    clear c_258
                    refine WX.s1 rfl rfl ?_
                    refine WX.get1 (fs := [.ref 1, .ref 3, .ref 5, .ref 7, .long 0, .ref 9, .ref 38, .ref 67, .ref 81, .ref 189, .int 2, .int 3]) rfl (ltN hn (by decide)) (F_h248_0) rfl ?_
                    refine WX.get1 (fs := [.ref 82, .ref 89, .ref 108, .ref 135, .ref 162, .ref 86, .ref 87, .int 0, .ref 88]) rfl (ltN hn (by decide)) (F_h248_81) rfl ?_
                    refine WX.s1 rfl rfl ?_
                    refine WX.s1 rfl rfl ?_
                    refine WX.get1 (fs := [.ref 1, .ref 3, .ref 5, .ref 7, .long 0, .ref 9, .ref 38, .ref 67, .ref 81, .ref 189, .int 2, .int 3]) rfl (ltN hn (by decide)) (F_h248_0) rfl ?_
                    refine WX.s1 rfl rfl ?_
                    refine WX.s1 rfl rfl ?_
                    refine WX.copyN rfl (Nat.le_of_ble_eq_true rfl) (Or.inl (ltN hn (by decide))) (F_h248_88) (ltN hn (by decide)) (F_h248_189) (p := 0) (q := 0) (c := 12) rfl rfl rfl (by decide) (by decide) (by decide) (by decide) (fun g278 h278 e_g278 e_h278 => ?_)
                    have F_h278_0 : h278 0 = .inr (10, [.ref 1, .ref 3, .ref 5, .ref 7, .long 0, .ref 9, .ref 38, .ref 67, .ref 81, .ref 189, .int 2, .int 3]) := by rw [e_h278, va_up_neq (by decide)]; exact F_h248_0
                    have F_h278_1 : h278 1 = .inr (7, [.ref 2, .int 0, .int 0, .long 0, .int 0]) := by rw [e_h278, va_up_neq (by decide)]; exact F_h248_1
                    have F_h278_81 : h278 81 = .inr (6, [.ref 82, .ref 89, .ref 108, .ref 135, .ref 162, .ref 86, .ref 87, .int 0, .ref 88]) := by rw [e_h278, va_up_neq (by decide)]; exact F_h248_81
                    have F_h278_88 : h278 88 = .inl (1, 12, .inl g206) := by rw [e_h278, va_up_neq (by decide)]; exact F_h248_88
                    have F_h278_189 : h278 189 = .inl (1, 12, .inl g278) := by rw [e_h278]; exact va_up_eq
                    have F_h278_5 : h278 5 = .inr (7, [.ref 6, .int (nI (hCnt fl + 3 + 4)), .int 0, .long ho5, .int hd5]) := by rw [e_h278, va_up_neq (by decide)]; exact F_h248_5
                    have P_h278_nx : RowN h278 5 12000 (hCnt fl + 3 + 4) := P_h248_nx.zfr (Fr.of e_h278) (by decide) (by decide)
                    have FR_h278 : Fr h h278 (fun j => j < 190) := FR_h248.zup e_h278 (by first | exact rfl | exact Or.inl rfl | exact Or.inr rfl | exact ⟨by decide, by decide⟩ | decide | omega)
                    clear F_h248_0 F_h248_1 F_h248_81 F_h248_88 F_h248_189 F_h248_5 P_h248_nx FR_h248 e_h278
                    refine WX.s1 rfl rfl ?_
                    rw [ec] at F_h278_5
                    refine WX.callC (vs := [.ref 0]) rfl rfl rfl (Nat.le_of_ble_eq_true rfl) (rcv_ok (ltN hn (by decide)) F_h278_0) ?_
                    refine x_out hn F_h278_0 F_h278_5 (fun h282 fr => ?_)
                    have FR_h282 : Fr h h282 (fun j => j < 190) := FR_h278.zsub fr (fun j hj => by first | omega | (have hj : j = 5 := hj; omega))
                    show WX _ _ _ 285 [(0, .ref 0), (1, .int fl), (2, .int e), (3, .int cut), (4, .int 0), (5, .int (0 + 0)), (6, .int 0), (7, .int 0)] [.int (nI (pCnt fl))] (n, s, h282)
                    exact WX.ret1 rfl (k1 h282 hgood FR_h282)
                · skip
                  refine WX.s1 rfl rfl ?_
                  refine WX.ret1 rfl (k0 ?_)
                  unfold pBad
                  first
                    | exact Or.inl c_1
                    | exact Or.inr (Or.inl c_7)
                    | exact Or.inr (Or.inr (Or.inl c_11))
                    | exact Or.inr (Or.inr (Or.inr (Or.inl c_17)))
                    | exact Or.inr (Or.inr (Or.inr (Or.inr (Or.inl c_22))))
                    | exact Or.inr (Or.inr (Or.inr (Or.inr (Or.inr (Or.inl (Int32.not_le.mp c_29))))))
                    | exact Or.inr (Or.inr (Or.inr (Or.inr (Or.inr (Or.inr ⟨c_37, Int32.not_le.mp c_59⟩)))))
              · skip
                refine WX.s1 rfl rfl ?_
                refine WX.s1 rfl rfl ?_
                refine WX.s1 (L' := [(0, .ref 0), (1, .int fl), (2, .int e), (3, .int cut), (4, .int 1)]) rfl rfl ?_
                refine WX.s1 rfl rfl ?_
                refine WX.if_ rfl (fun c_49 => ?_) (fun c_49 => absurd (by decide) c_49)
                clear c_49
                have hgood : ¬ pBad fl e cut := by
                  rintro (q | q | q | q | q | q | q)
                  · exact c_1 q
                  · exact c_7 q
                  · exact c_11 q
                  · exact c_17 q
                  · exact c_22 q
                  · exact (Int32.not_lt.mpr c_29) q
                  · exact c_37 q.1
                have hcut : ¬ cut < 1 := c_22
                refine WX.s1 rfl rfl ?_
                refine WX.get1 (fs := [.ref 1, .ref 3, .ref 5, .ref 7, .long 0, .ref 9, .ref 38, .ref 67, .ref 81, .ref 189, .int 2, .int 3]) rfl (ltN hn (by decide)) (F_h_0) rfl ?_
                refine WX.callC (vs := [.ref 5]) rfl rfl rfl (Nat.le_of_ble_eq_true rfl) (P_h_nx.rcv (ltN hn (by decide))) ?_
                refine w_dropN (ltN hn (by decide)) P_h_nx (fun h68 fr P_h68_nx => ?_)
                have F_h68_0 : h68 0 = .inr (10, [.ref 1, .ref 3, .ref 5, .ref 7, .long 0, .ref 9, .ref 38, .ref 67, .ref 81, .ref 189, .int 2, .int 3]) := (fr _ (by first | decide | omega)).trans F_h_0
                have F_h68_1 : h68 1 = .inr (7, [.ref 2, .int 0, .int 0, .long 0, .int 0]) := (fr _ (by first | decide | omega)).trans F_h_1
                have F_h68_2 : h68 2 = .inl (0, 8000, .inl (fun _ => 0)) := (fr _ (by first | decide | omega)).trans F_h_2
                have F_h68_7 : h68 7 = .inr (7, [.ref 8, .int 0, .int 0, .long 0, .int 0]) := (fr _ (by first | decide | omega)).trans F_h_7
                have F_h68_8 : h68 8 = .inl (0, 8000, .inl (fun _ => 0)) := (fr _ (by first | decide | omega)).trans F_h_8
                have F_h68_9 : h68 9 = .inr (9, [.ref 10, .ref 12, .ref 16, .ref 23, .ref 30, .ref 37]) := (fr _ (by first | decide | omega)).trans F_h_9
                have F_h68_12 : h68 12 = .inr (0, [.ref 13, .ref 14, .ref 15, .int 0, .int 0]) := (fr _ (by first | decide | omega)).trans F_h_12
                have F_h68_37 : h68 37 = .inl (1, 3, .inl lat0) := (fr _ (by first | decide | omega)).trans F_h_37
                have F_h68_81 : h68 81 = .inr (6, [.ref 82, .ref 89, .ref 108, .ref 135, .ref 162, .ref 86, .ref 87, .int 0, .ref 88]) := (fr _ (by first | decide | omega)).trans F_h_81
                have F_h68_82 : h68 82 = .inr (3, [.ref 83, .int 0, .ref 84, .ref 85, .int 0, .int 0, .int 0, .int 0, .int 0, .int 0, .int 0, .int 0, .int 0]) := (fr _ (by first | decide | omega)).trans F_h_82
                have F_h68_83 : h68 83 = .inl (0, 16000, .inl (fun _ => 0)) := (fr _ (by first | decide | omega)).trans F_h_83
                have F_h68_85 : h68 85 = .inl (1, 4096, .inl (fun _ => 0)) := (fr _ (by first | decide | omega)).trans F_h_85
                have F_h68_86 : h68 86 = .inl (1, 3, .inl (fun _ => 0)) := (fr _ (by first | decide | omega)).trans F_h_86
                have F_h68_87 : h68 87 = .inl (1, 3, .inl (fun _ => 0)) := (fr _ (by first | decide | omega)).trans F_h_87
                have F_h68_88 : h68 88 = .inl (1, 12, .inl (fun _ => 0)) := (fr _ (by first | decide | omega)).trans F_h_88
                have F_h68_89 : h68 89 = .inr (5, [.ref 90, .ref 91, .int 0, .ref 92, .ref 96, .ref 100, .ref 67, .ref 106, .int 0, .int 0, .int 0, .int 0]) := (fr _ (by first | decide | omega)).trans F_h_89
                have F_h68_91 : h68 91 = .inl (1, 256, .inl (fun _ => 0)) := (fr _ (by first | decide | omega)).trans F_h_91
                have F_h68_92 : h68 92 = .inr (0, [.ref 93, .ref 94, .ref 95, .int 0, .int 0]) := (fr _ (by first | decide | omega)).trans F_h_92
                have F_h68_189 : h68 189 = .inl (1, 12, .inl (fun _ => 0)) := (fr _ (by first | decide | omega)).trans F_h_189
                have F_h68_108 : h68 108 = .inr (1, [.ref (aBig + 3), .ref (aBig + 4), .int 9, .ref 109, .ref 110, .ref 113, .int 0, .int 0, .int 0, .ref 114, .ref 121, .ref 128, .ref 114, .ref 111, .int 0, .int 0, .int 0, .int 0]) := (fr _ (by first | decide | omega)).trans F_h_108
                have F_h68_113 : h68 113 = .inl (1, 36, .inl (fun _ => 0)) := (fr _ (by first | decide | omega)).trans F_h_113
                have F_h68_121 : h68 121 = .inr (8, [.int 35, .ref 122, .ref 123, .ref 124, .ref 125, .ref 126, .ref 127, .int 0, .int 0]) := (fr _ (by first | decide | omega)).trans F_h_121
                have F_h68_16 : h68 16 = .inr (8, [.int 35, .ref 17, .ref 18, .ref 19, .ref 20, .ref 21, .ref 22, .int 0, .int 0]) := (fr _ (by first | decide | omega)).trans F_h_16
                have F_h68_135 : h68 135 = .inr (1, [.ref (aBig + 5), .ref (aBig + 6), .int 8, .ref 136, .ref 137, .ref 140, .int 0, .int 0, .int 0, .ref 141, .ref 148, .ref 155, .ref 141, .ref 138, .int 0, .int 0, .int 0, .int 0]) := (fr _ (by first | decide | omega)).trans F_h_135
                have F_h68_140 : h68 140 = .inl (1, 32, .inl (fun _ => 0)) := (fr _ (by first | decide | omega)).trans F_h_140
                have F_h68_148 : h68 148 = .inr (8, [.int 31, .ref 149, .ref 150, .ref 151, .ref 152, .ref 153, .ref 154, .int 0, .int 0]) := (fr _ (by first | decide | omega)).trans F_h_148
                have F_h68_23 : h68 23 = .inr (8, [.int 31, .ref 24, .ref 25, .ref 26, .ref 27, .ref 28, .ref 29, .int 0, .int 0]) := (fr _ (by first | decide | omega)).trans F_h_23
                have F_h68_162 : h68 162 = .inr (1, [.ref (aBig + 7), .ref (aBig + 8), .int 9, .ref 163, .ref 164, .ref 167, .int 0, .int 0, .int 0, .ref 168, .ref 175, .ref 182, .ref 168, .ref 165, .int 0, .int 0, .int 0, .int 0]) := (fr _ (by first | decide | omega)).trans F_h_162
                have F_h68_167 : h68 167 = .inl (1, 53, .inl (fun _ => 0)) := (fr _ (by first | decide | omega)).trans F_h_167
                have F_h68_175 : h68 175 = .inr (8, [.int 52, .ref 176, .ref 177, .ref 178, .ref 179, .ref 180, .ref 181, .int 0, .int 0]) := (fr _ (by first | decide | omega)).trans F_h_175
                have F_h68_30 : h68 30 = .inr (8, [.int 52, .ref 31, .ref 32, .ref 33, .ref 34, .ref 35, .ref 36, .int 0, .int 0]) := (fr _ (by first | decide | omega)).trans F_h_30
                have FR_h68 : Fr h h68 (fun j => j < 190) := FR_h.zsub fr (fun j hj => by first | omega | (have hj : j = 5 := hj; omega))
                show WX _ _ _ 71 [(0, .ref 0), (1, .int fl), (2, .int e), (3, .int cut), (4, .int 1)] [] (n, s, h68)
                refine WX.s1 rfl rfl ?_
                refine WX.s1 rfl rfl ?_
                refine WX.s1 rfl rfl ?_
                refine WX.callC (vs := [.ref 0, .int fl, .int e]) rfl rfl rfl (Nat.le_of_ble_eq_true rfl) (rcv_ok (ltN hn (by decide)) F_h68_0) ?_
                refine x_head0 hn F_h68_0 F_h68_1 P_h68_nx (fun h74 fr P_h74_nx => ?_)
                have F_h74_0 : h74 0 = .inr (10, [.ref 1, .ref 3, .ref 5, .ref 7, .long 0, .ref 9, .ref 38, .ref 67, .ref 81, .ref 189, .int 2, .int 3]) := (fr _ (by first | decide | omega)).trans F_h68_0
                have F_h74_1 : h74 1 = .inr (7, [.ref 2, .int 0, .int 0, .long 0, .int 0]) := (fr _ (by first | decide | omega)).trans F_h68_1
                have F_h74_2 : h74 2 = .inl (0, 8000, .inl (fun _ => 0)) := (fr _ (by first | decide | omega)).trans F_h68_2
                have F_h74_7 : h74 7 = .inr (7, [.ref 8, .int 0, .int 0, .long 0, .int 0]) := (fr _ (by first | decide | omega)).trans F_h68_7
                have F_h74_8 : h74 8 = .inl (0, 8000, .inl (fun _ => 0)) := (fr _ (by first | decide | omega)).trans F_h68_8
                have F_h74_9 : h74 9 = .inr (9, [.ref 10, .ref 12, .ref 16, .ref 23, .ref 30, .ref 37]) := (fr _ (by first | decide | omega)).trans F_h68_9
                have F_h74_12 : h74 12 = .inr (0, [.ref 13, .ref 14, .ref 15, .int 0, .int 0]) := (fr _ (by first | decide | omega)).trans F_h68_12
                have F_h74_37 : h74 37 = .inl (1, 3, .inl lat0) := (fr _ (by first | decide | omega)).trans F_h68_37
                have F_h74_81 : h74 81 = .inr (6, [.ref 82, .ref 89, .ref 108, .ref 135, .ref 162, .ref 86, .ref 87, .int 0, .ref 88]) := (fr _ (by first | decide | omega)).trans F_h68_81
                have F_h74_82 : h74 82 = .inr (3, [.ref 83, .int 0, .ref 84, .ref 85, .int 0, .int 0, .int 0, .int 0, .int 0, .int 0, .int 0, .int 0, .int 0]) := (fr _ (by first | decide | omega)).trans F_h68_82
                have F_h74_83 : h74 83 = .inl (0, 16000, .inl (fun _ => 0)) := (fr _ (by first | decide | omega)).trans F_h68_83
                have F_h74_85 : h74 85 = .inl (1, 4096, .inl (fun _ => 0)) := (fr _ (by first | decide | omega)).trans F_h68_85
                have F_h74_86 : h74 86 = .inl (1, 3, .inl (fun _ => 0)) := (fr _ (by first | decide | omega)).trans F_h68_86
                have F_h74_87 : h74 87 = .inl (1, 3, .inl (fun _ => 0)) := (fr _ (by first | decide | omega)).trans F_h68_87
                have F_h74_88 : h74 88 = .inl (1, 12, .inl (fun _ => 0)) := (fr _ (by first | decide | omega)).trans F_h68_88
                have F_h74_89 : h74 89 = .inr (5, [.ref 90, .ref 91, .int 0, .ref 92, .ref 96, .ref 100, .ref 67, .ref 106, .int 0, .int 0, .int 0, .int 0]) := (fr _ (by first | decide | omega)).trans F_h68_89
                have F_h74_91 : h74 91 = .inl (1, 256, .inl (fun _ => 0)) := (fr _ (by first | decide | omega)).trans F_h68_91
                have F_h74_92 : h74 92 = .inr (0, [.ref 93, .ref 94, .ref 95, .int 0, .int 0]) := (fr _ (by first | decide | omega)).trans F_h68_92
                have F_h74_189 : h74 189 = .inl (1, 12, .inl (fun _ => 0)) := (fr _ (by first | decide | omega)).trans F_h68_189
                have F_h74_108 : h74 108 = .inr (1, [.ref (aBig + 3), .ref (aBig + 4), .int 9, .ref 109, .ref 110, .ref 113, .int 0, .int 0, .int 0, .ref 114, .ref 121, .ref 128, .ref 114, .ref 111, .int 0, .int 0, .int 0, .int 0]) := (fr _ (by first | decide | omega)).trans F_h68_108
                have F_h74_113 : h74 113 = .inl (1, 36, .inl (fun _ => 0)) := (fr _ (by first | decide | omega)).trans F_h68_113
                have F_h74_121 : h74 121 = .inr (8, [.int 35, .ref 122, .ref 123, .ref 124, .ref 125, .ref 126, .ref 127, .int 0, .int 0]) := (fr _ (by first | decide | omega)).trans F_h68_121
                have F_h74_16 : h74 16 = .inr (8, [.int 35, .ref 17, .ref 18, .ref 19, .ref 20, .ref 21, .ref 22, .int 0, .int 0]) := (fr _ (by first | decide | omega)).trans F_h68_16
                have F_h74_135 : h74 135 = .inr (1, [.ref (aBig + 5), .ref (aBig + 6), .int 8, .ref 136, .ref 137, .ref 140, .int 0, .int 0, .int 0, .ref 141, .ref 148, .ref 155, .ref 141, .ref 138, .int 0, .int 0, .int 0, .int 0]) := (fr _ (by first | decide | omega)).trans F_h68_135
                have F_h74_140 : h74 140 = .inl (1, 32, .inl (fun _ => 0)) := (fr _ (by first | decide | omega)).trans F_h68_140
                have F_h74_148 : h74 148 = .inr (8, [.int 31, .ref 149, .ref 150, .ref 151, .ref 152, .ref 153, .ref 154, .int 0, .int 0]) := (fr _ (by first | decide | omega)).trans F_h68_148
                have F_h74_23 : h74 23 = .inr (8, [.int 31, .ref 24, .ref 25, .ref 26, .ref 27, .ref 28, .ref 29, .int 0, .int 0]) := (fr _ (by first | decide | omega)).trans F_h68_23
                have F_h74_162 : h74 162 = .inr (1, [.ref (aBig + 7), .ref (aBig + 8), .int 9, .ref 163, .ref 164, .ref 167, .int 0, .int 0, .int 0, .ref 168, .ref 175, .ref 182, .ref 168, .ref 165, .int 0, .int 0, .int 0, .int 0]) := (fr _ (by first | decide | omega)).trans F_h68_162
                have F_h74_167 : h74 167 = .inl (1, 53, .inl (fun _ => 0)) := (fr _ (by first | decide | omega)).trans F_h68_167
                have F_h74_175 : h74 175 = .inr (8, [.int 52, .ref 176, .ref 177, .ref 178, .ref 179, .ref 180, .ref 181, .int 0, .int 0]) := (fr _ (by first | decide | omega)).trans F_h68_175
                have F_h74_30 : h74 30 = .inr (8, [.int 52, .ref 31, .ref 32, .ref 33, .ref 34, .ref 35, .ref 36, .int 0, .int 0]) := (fr _ (by first | decide | omega)).trans F_h68_30
                have FR_h74 : Fr h h74 (fun j => j < 190) := FR_h68.zsub fr (fun j hj => by first | omega | (have hj : j = 5 := hj; omega))
                show WX _ _ _ 77 [(0, .ref 0), (1, .int fl), (2, .int e), (3, .int cut), (4, .int 1)] [] (n, s, h74)
                refine WX.s1 rfl rfl ?_
                refine WX.get1 (fs := [.ref 1, .ref 3, .ref 5, .ref 7, .long 0, .ref 9, .ref 38, .ref 67, .ref 81, .ref 189, .int 2, .int 3]) rfl (ltN hn (by decide)) (F_h74_0) rfl ?_
                refine WX.s1 rfl rfl ?_
                refine WX.get1 (fs := [.ref 1, .ref 3, .ref 5, .ref 7, .long 0, .ref 9, .ref 38, .ref 67, .ref 81, .ref 189, .int 2, .int 3]) rfl (ltN hn (by decide)) (F_h74_0) rfl ?_
                refine WX.callC (vs := [.ref 81, .ref 9]) rfl rfl rfl (Nat.le_of_ble_eq_true rfl) (rcv_ok (ltN hn (by decide)) F_h74_81) ?_
                refine x_pbeg0 hn F_h74_81 F_h74_89 F_h74_92 F_h74_9 F_h74_12 F_h74_108 F_h74_121 F_h74_16 F_h74_135 F_h74_148 F_h74_23 F_h74_162 F_h74_175 F_h74_30 F_h74_37 F_h74_86 F_h74_88 (fun h85 fr F_h85_92 F_h85_121 F_h85_148 F_h85_175 ⟨g86, F_h85_86⟩ ⟨g88, F_h85_88⟩ => ?_)
                have F_h85_0 : h85 0 = .inr (10, [.ref 1, .ref 3, .ref 5, .ref 7, .long 0, .ref 9, .ref 38, .ref 67, .ref 81, .ref 189, .int 2, .int 3]) := (fr _ (by first | decide | omega)).trans F_h74_0
                have F_h85_1 : h85 1 = .inr (7, [.ref 2, .int 0, .int 0, .long 0, .int 0]) := (fr _ (by first | decide | omega)).trans F_h74_1
                have F_h85_2 : h85 2 = .inl (0, 8000, .inl (fun _ => 0)) := (fr _ (by first | decide | omega)).trans F_h74_2
                have F_h85_7 : h85 7 = .inr (7, [.ref 8, .int 0, .int 0, .long 0, .int 0]) := (fr _ (by first | decide | omega)).trans F_h74_7
                have F_h85_8 : h85 8 = .inl (0, 8000, .inl (fun _ => 0)) := (fr _ (by first | decide | omega)).trans F_h74_8
                have F_h85_81 : h85 81 = .inr (6, [.ref 82, .ref 89, .ref 108, .ref 135, .ref 162, .ref 86, .ref 87, .int 0, .ref 88]) := (fr _ (by first | decide | omega)).trans F_h74_81
                have F_h85_82 : h85 82 = .inr (3, [.ref 83, .int 0, .ref 84, .ref 85, .int 0, .int 0, .int 0, .int 0, .int 0, .int 0, .int 0, .int 0, .int 0]) := (fr _ (by first | decide | omega)).trans F_h74_82
                have F_h85_83 : h85 83 = .inl (0, 16000, .inl (fun _ => 0)) := (fr _ (by first | decide | omega)).trans F_h74_83
                have F_h85_85 : h85 85 = .inl (1, 4096, .inl (fun _ => 0)) := (fr _ (by first | decide | omega)).trans F_h74_85
                have F_h85_87 : h85 87 = .inl (1, 3, .inl (fun _ => 0)) := (fr _ (by first | decide | omega)).trans F_h74_87
                have F_h85_89 : h85 89 = .inr (5, [.ref 90, .ref 91, .int 0, .ref 92, .ref 96, .ref 100, .ref 67, .ref 106, .int 0, .int 0, .int 0, .int 0]) := (fr _ (by first | decide | omega)).trans F_h74_89
                have F_h85_91 : h85 91 = .inl (1, 256, .inl (fun _ => 0)) := (fr _ (by first | decide | omega)).trans F_h74_91
                have F_h85_189 : h85 189 = .inl (1, 12, .inl (fun _ => 0)) := (fr _ (by first | decide | omega)).trans F_h74_189
                have F_h85_108 : h85 108 = .inr (1, [.ref (aBig + 3), .ref (aBig + 4), .int 9, .ref 109, .ref 110, .ref 113, .int 0, .int 0, .int 0, .ref 114, .ref 121, .ref 128, .ref 114, .ref 111, .int 0, .int 0, .int 0, .int 0]) := (fr _ (by first | decide | omega)).trans F_h74_108
                have F_h85_113 : h85 113 = .inl (1, 36, .inl (fun _ => 0)) := (fr _ (by first | decide | omega)).trans F_h74_113
                have F_h85_135 : h85 135 = .inr (1, [.ref (aBig + 5), .ref (aBig + 6), .int 8, .ref 136, .ref 137, .ref 140, .int 0, .int 0, .int 0, .ref 141, .ref 148, .ref 155, .ref 141, .ref 138, .int 0, .int 0, .int 0, .int 0]) := (fr _ (by first | decide | omega)).trans F_h74_135
                have F_h85_140 : h85 140 = .inl (1, 32, .inl (fun _ => 0)) := (fr _ (by first | decide | omega)).trans F_h74_140
                have F_h85_162 : h85 162 = .inr (1, [.ref (aBig + 7), .ref (aBig + 8), .int 9, .ref 163, .ref 164, .ref 167, .int 0, .int 0, .int 0, .ref 168, .ref 175, .ref 182, .ref 168, .ref 165, .int 0, .int 0, .int 0, .int 0]) := (fr _ (by first | decide | omega)).trans F_h74_162
                have F_h85_167 : h85 167 = .inl (1, 53, .inl (fun _ => 0)) := (fr _ (by first | decide | omega)).trans F_h74_167
                have P_h85_nx : RowN h85 5 12000 (hCnt fl) := P_h74_nx.zfr fr (by first | decide | omega) (by first | decide | omega)
                have FR_h85 : Fr h h85 (fun j => j < 190) := FR_h74.zsub fr (fun j hj => by first | omega | (have hj : j = 5 := hj; omega))
                show WX _ _ _ 88 [(0, .ref 0), (1, .int fl), (2, .int e), (3, .int cut), (4, .int 1)] [] (n, s, h85)
                refine WX.s1 rfl rfl ?_
                refine WX.get1 (fs := [.ref 1, .ref 3, .ref 5, .ref 7, .long 0, .ref 9, .ref 38, .ref 67, .ref 81, .ref 189, .int 2, .int 3]) rfl (ltN hn (by decide)) (F_h85_0) rfl ?_
                refine WX.get1 (fs := [.ref 82, .ref 89, .ref 108, .ref 135, .ref 162, .ref 86, .ref 87, .int 0, .ref 88]) rfl (ltN hn (by decide)) (F_h85_81) rfl ?_
                refine WX.s1 rfl rfl ?_
                refine WX.get1 (fs := [.ref 1, .ref 3, .ref 5, .ref 7, .long 0, .ref 9, .ref 38, .ref 67, .ref 81, .ref 189, .int 2, .int 3]) rfl (ltN hn (by decide)) (F_h85_0) rfl ?_
                refine WX.s1 rfl rfl ?_
                refine WX.get1 (fs := [.ref 1, .ref 3, .ref 5, .ref 7, .long 0, .ref 9, .ref 38, .ref 67, .ref 81, .ref 189, .int 2, .int 3]) rfl (ltN hn (by decide)) (F_h85_0) rfl ?_
                refine WX.callC (vs := [.ref 82, .ref 7, .ref 1]) rfl rfl rfl (Nat.le_of_ble_eq_true rfl) (rcv_ok (ltN hn (by decide)) F_h85_82) ?_
                refine x_load0 hn F_h85_82 F_h85_83 F_h85_85 F_h85_7 F_h85_8 F_h85_1 F_h85_2 (fun h103 fr F_h103_82 ⟨g83, F_h103_83⟩ ⟨g85, F_h103_85⟩ => ?_)
                have F_h103_0 : h103 0 = .inr (10, [.ref 1, .ref 3, .ref 5, .ref 7, .long 0, .ref 9, .ref 38, .ref 67, .ref 81, .ref 189, .int 2, .int 3]) := (fr _ (by first | decide | omega)).trans F_h85_0
                have F_h103_1 : h103 1 = .inr (7, [.ref 2, .int 0, .int 0, .long 0, .int 0]) := (fr _ (by first | decide | omega)).trans F_h85_1
                have F_h103_7 : h103 7 = .inr (7, [.ref 8, .int 0, .int 0, .long 0, .int 0]) := (fr _ (by first | decide | omega)).trans F_h85_7
                have F_h103_81 : h103 81 = .inr (6, [.ref 82, .ref 89, .ref 108, .ref 135, .ref 162, .ref 86, .ref 87, .int 0, .ref 88]) := (fr _ (by first | decide | omega)).trans F_h85_81
                have F_h103_86 : h103 86 = .inl (1, 3, .inl g86) := (fr _ (by first | decide | omega)).trans F_h85_86
                have F_h103_87 : h103 87 = .inl (1, 3, .inl (fun _ => 0)) := (fr _ (by first | decide | omega)).trans F_h85_87
                have F_h103_88 : h103 88 = .inl (1, 12, .inl g88) := (fr _ (by first | decide | omega)).trans F_h85_88
                have F_h103_89 : h103 89 = .inr (5, [.ref 90, .ref 91, .int 0, .ref 92, .ref 96, .ref 100, .ref 67, .ref 106, .int 0, .int 0, .int 0, .int 0]) := (fr _ (by first | decide | omega)).trans F_h85_89
                have F_h103_91 : h103 91 = .inl (1, 256, .inl (fun _ => 0)) := (fr _ (by first | decide | omega)).trans F_h85_91
                have F_h103_92 : h103 92 = .inr (0, [.ref 93, .ref 94, .ref 95, .int 0, .int 0]) := (fr _ (by first | decide | omega)).trans F_h85_92
                have F_h103_189 : h103 189 = .inl (1, 12, .inl (fun _ => 0)) := (fr _ (by first | decide | omega)).trans F_h85_189
                have F_h103_108 : h103 108 = .inr (1, [.ref (aBig + 3), .ref (aBig + 4), .int 9, .ref 109, .ref 110, .ref 113, .int 0, .int 0, .int 0, .ref 114, .ref 121, .ref 128, .ref 114, .ref 111, .int 0, .int 0, .int 0, .int 0]) := (fr _ (by first | decide | omega)).trans F_h85_108
                have F_h103_113 : h103 113 = .inl (1, 36, .inl (fun _ => 0)) := (fr _ (by first | decide | omega)).trans F_h85_113
                have F_h103_135 : h103 135 = .inr (1, [.ref (aBig + 5), .ref (aBig + 6), .int 8, .ref 136, .ref 137, .ref 140, .int 0, .int 0, .int 0, .ref 141, .ref 148, .ref 155, .ref 141, .ref 138, .int 0, .int 0, .int 0, .int 0]) := (fr _ (by first | decide | omega)).trans F_h85_135
                have F_h103_140 : h103 140 = .inl (1, 32, .inl (fun _ => 0)) := (fr _ (by first | decide | omega)).trans F_h85_140
                have F_h103_162 : h103 162 = .inr (1, [.ref (aBig + 7), .ref (aBig + 8), .int 9, .ref 163, .ref 164, .ref 167, .int 0, .int 0, .int 0, .ref 168, .ref 175, .ref 182, .ref 168, .ref 165, .int 0, .int 0, .int 0, .int 0]) := (fr _ (by first | decide | omega)).trans F_h85_162
                have F_h103_167 : h103 167 = .inl (1, 53, .inl (fun _ => 0)) := (fr _ (by first | decide | omega)).trans F_h85_167
                have P_h103_nx : RowN h103 5 12000 (hCnt fl) := P_h85_nx.zfr fr (by first | decide | omega) (by first | decide | omega)
                have FR_h103 : Fr h h103 (fun j => j < 190) := FR_h85.zsub fr (fun j hj => by first | omega | (have hj : j = 5 := hj; omega))
                show WX _ _ _ 106 [(0, .ref 0), (1, .int fl), (2, .int e), (3, .int cut), (4, .int 1)] [] (n, s, h103)
                refine WX.s1 rfl rfl ?_
                refine WX.get1 (fs := [.ref 1, .ref 3, .ref 5, .ref 7, .long 0, .ref 9, .ref 38, .ref 67, .ref 81, .ref 189, .int 2, .int 3]) rfl (ltN hn (by decide)) (F_h103_0) rfl ?_
                refine WX.get1 (fs := [.ref 82, .ref 89, .ref 108, .ref 135, .ref 162, .ref 86, .ref 87, .int 0, .ref 88]) rfl (ltN hn (by decide)) (F_h103_81) rfl ?_
                refine WX.s1 rfl rfl ?_
                refine WX.get1 (fs := [.ref 1, .ref 3, .ref 5, .ref 7, .long 0, .ref 9, .ref 38, .ref 67, .ref 81, .ref 189, .int 2, .int 3]) rfl (ltN hn (by decide)) (F_h103_0) rfl ?_
                refine WX.s1 rfl rfl ?_
                refine WX.get1 (fs := [.ref 1, .ref 3, .ref 5, .ref 7, .long 0, .ref 9, .ref 38, .ref 67, .ref 81, .ref 189, .int 2, .int 3]) rfl (ltN hn (by decide)) (F_h103_0) rfl ?_
                refine WX.s1 rfl rfl ?_
                refine WX.if_ rfl (fun c_123 => absurd c_123 (by decide)) (fun c_123 => ?_)
                clear c_123
                refine WX.s1 rfl rfl ?_
                refine WX.get1 (fs := [.ref 1, .ref 3, .ref 5, .ref 7, .long 0, .ref 9, .ref 38, .ref 67, .ref 81, .ref 189, .int 2, .int 3]) rfl (ltN hn (by decide)) (F_h103_0) rfl ?_
                refine WX.get1 (fs := [.ref 2, .int 0, .int 0, .long 0, .int 0]) rfl (ltN hn (by decide)) (F_h103_1) rfl ?_
                refine WX.s1 rfl rfl ?_
                refine WX.nm1 (fun wi => ?_)
                refine WX.callC (vs := [.ref 82, .int 2, .int 3, .int wi]) rfl rfl rfl (Nat.le_of_ble_eq_true rfl) (rcv_ok (ltN hn (by decide)) F_h103_82) ?_
                refine x_obey hn F_h103_82 (fun h142 fr F_h142_82 => ?_)
                have F_h142_0 : h142 0 = .inr (10, [.ref 1, .ref 3, .ref 5, .ref 7, .long 0, .ref 9, .ref 38, .ref 67, .ref 81, .ref 189, .int 2, .int 3]) := (fr _ (by first | decide | omega)).trans F_h103_0
                have F_h142_1 : h142 1 = .inr (7, [.ref 2, .int 0, .int 0, .long 0, .int 0]) := (fr _ (by first | decide | omega)).trans F_h103_1
                have F_h142_7 : h142 7 = .inr (7, [.ref 8, .int 0, .int 0, .long 0, .int 0]) := (fr _ (by first | decide | omega)).trans F_h103_7
                have F_h142_81 : h142 81 = .inr (6, [.ref 82, .ref 89, .ref 108, .ref 135, .ref 162, .ref 86, .ref 87, .int 0, .ref 88]) := (fr _ (by first | decide | omega)).trans F_h103_81
                have F_h142_86 : h142 86 = .inl (1, 3, .inl g86) := (fr _ (by first | decide | omega)).trans F_h103_86
                have F_h142_87 : h142 87 = .inl (1, 3, .inl (fun _ => 0)) := (fr _ (by first | decide | omega)).trans F_h103_87
                have F_h142_88 : h142 88 = .inl (1, 12, .inl g88) := (fr _ (by first | decide | omega)).trans F_h103_88
                have F_h142_89 : h142 89 = .inr (5, [.ref 90, .ref 91, .int 0, .ref 92, .ref 96, .ref 100, .ref 67, .ref 106, .int 0, .int 0, .int 0, .int 0]) := (fr _ (by first | decide | omega)).trans F_h103_89
                have F_h142_91 : h142 91 = .inl (1, 256, .inl (fun _ => 0)) := (fr _ (by first | decide | omega)).trans F_h103_91
                have F_h142_92 : h142 92 = .inr (0, [.ref 93, .ref 94, .ref 95, .int 0, .int 0]) := (fr _ (by first | decide | omega)).trans F_h103_92
                have F_h142_189 : h142 189 = .inl (1, 12, .inl (fun _ => 0)) := (fr _ (by first | decide | omega)).trans F_h103_189
                have F_h142_108 : h142 108 = .inr (1, [.ref (aBig + 3), .ref (aBig + 4), .int 9, .ref 109, .ref 110, .ref 113, .int 0, .int 0, .int 0, .ref 114, .ref 121, .ref 128, .ref 114, .ref 111, .int 0, .int 0, .int 0, .int 0]) := (fr _ (by first | decide | omega)).trans F_h103_108
                have F_h142_113 : h142 113 = .inl (1, 36, .inl (fun _ => 0)) := (fr _ (by first | decide | omega)).trans F_h103_113
                have F_h142_135 : h142 135 = .inr (1, [.ref (aBig + 5), .ref (aBig + 6), .int 8, .ref 136, .ref 137, .ref 140, .int 0, .int 0, .int 0, .ref 141, .ref 148, .ref 155, .ref 141, .ref 138, .int 0, .int 0, .int 0, .int 0]) := (fr _ (by first | decide | omega)).trans F_h103_135
                have F_h142_140 : h142 140 = .inl (1, 32, .inl (fun _ => 0)) := (fr _ (by first | decide | omega)).trans F_h103_140
                have F_h142_162 : h142 162 = .inr (1, [.ref (aBig + 7), .ref (aBig + 8), .int 9, .ref 163, .ref 164, .ref 167, .int 0, .int 0, .int 0, .ref 168, .ref 175, .ref 182, .ref 168, .ref 165, .int 0, .int 0, .int 0, .int 0]) := (fr _ (by first | decide | omega)).trans F_h103_162
                have F_h142_167 : h142 167 = .inl (1, 53, .inl (fun _ => 0)) := (fr _ (by first | decide | omega)).trans F_h103_167
                have P_h142_nx : RowN h142 5 12000 (hCnt fl) := P_h103_nx.zfr fr (by first | decide | omega) (by first | decide | omega)
                have FR_h142 : Fr h h142 (fun j => j < 190) := FR_h103.zsub fr (fun j hj => by first | omega | (have hj : j = 5 := hj; omega))
                show WX _ _ _ 145 [(0, .ref 0), (1, .int fl), (2, .int e), (3, .int cut), (4, .int 1)] [] (n, s, h142)
                refine WX.s1 rfl rfl ?_
                refine WX.get1 (fs := [.ref 1, .ref 3, .ref 5, .ref 7, .long 0, .ref 9, .ref 38, .ref 67, .ref 81, .ref 189, .int 2, .int 3]) rfl (ltN hn (by decide)) (F_h142_0) rfl ?_
                refine WX.get1 (fs := [.ref 8, .int 0, .int 0, .long 0, .int 0]) rfl (ltN hn (by decide)) (F_h142_7) rfl ?_
                refine WX.s1 rfl rfl ?_
                refine WX.get1 (fs := [.ref 1, .ref 3, .ref 5, .ref 7, .long 0, .ref 9, .ref 38, .ref 67, .ref 81, .ref 189, .int 2, .int 3]) rfl (ltN hn (by decide)) (F_h142_0) rfl ?_
                refine WX.get1 (fs := [.ref 2, .int 0, .int 0, .long 0, .int 0]) rfl (ltN hn (by decide)) (F_h142_1) rfl ?_
                refine WX.s1 rfl rfl ?_
                refine WX.s1 (L' := [(0, .ref 0), (1, .int fl), (2, .int e), (3, .int cut), (4, .int 1), (5, .int (0 + 0))]) rfl rfl ?_
                refine WX.s1 rfl rfl ?_
                refine WX.get1 (fs := [.ref 1, .ref 3, .ref 5, .ref 7, .long 0, .ref 9, .ref 38, .ref 67, .ref 81, .ref 189, .int 2, .int 3]) rfl (ltN hn (by decide)) (F_h142_0) rfl ?_
                refine WX.get1 (fs := [.ref 8, .int 0, .int 0, .long 0, .int 0]) rfl (ltN hn (by decide)) (F_h142_7) rfl ?_
                refine WX.s1 (L' := [(0, .ref 0), (1, .int fl), (2, .int e), (3, .int cut), (4, .int 1), (5, .int (0 + 0)), (6, .int 0)]) rfl rfl ?_
                refine WX.s1 rfl rfl ?_
                refine WX.s1 rfl rfl ?_
                refine WX.s1 rfl rfl ?_
                refine WX.s1 rfl rfl ?_
                refine WX.s1 rfl rfl ?_
                refine WX.isN (L' := fun x180 => [(0, .ref 0), (1, .int fl), (2, .int e), (3, .int cut), (4, .int 1), (5, .int (0 + 0)), (6, .int 0), (7, .int x180)]) rfl (fun _ => rfl) (fun x180 e_x180 => ?_)
                try dsimp only at e_x180
                obtain rfl : x180 = 0 := e_x180.trans (min0 hcut)
                clear e_x180
                refine WX.s1 rfl rfl ?_
                refine WX.get1 (fs := [.ref 1, .ref 3, .ref 5, .ref 7, .long 0, .ref 9, .ref 38, .ref 67, .ref 81, .ref 189, .int 2, .int 3]) rfl (ltN hn (by decide)) (F_h142_0) rfl ?_
                refine WX.s1 rfl rfl ?_
                refine WX.get1 (fs := [.ref 1, .ref 3, .ref 5, .ref 7, .long 0, .ref 9, .ref 38, .ref 67, .ref 81, .ref 189, .int 2, .int 3]) rfl (ltN hn (by decide)) (F_h142_0) rfl ?_
                refine WX.s1 rfl rfl ?_
                refine WX.s1 rfl rfl ?_
                refine WX.s1 rfl rfl ?_
                refine WX.s1 rfl rfl ?_
                refine WX.icmp rfl (fun c_198 => absurd c_198 (by decide)) (fun c_198 => ?_)
                clear c_198
                refine WX.s1 rfl rfl ?_
                refine WX.s1 rfl rfl ?_
                refine WX.callC (vs := [.ref 81, .ref 5, .int 0, .int 0, .int 1]) rfl rfl rfl (Nat.le_of_ble_eq_true rfl) (rcv_ok (ltN hn (by decide)) F_h142_81) ?_
                refine x_block0 hn (by have := hCnt_le fl; omega) F_h142_81 F_h142_82 F_h142_86 F_h142_87 F_h142_88 F_h142_89 F_h142_91 F_h142_92 F_h142_108 F_h142_113 F_h142_135 F_h142_140 F_h142_162 F_h142_167 P_h142_nx (fun h206 fr P_h206_nx F_h206_81 ⟨g206, F_h206_88⟩ => ?_)
                have F_h206_0 : h206 0 = .inr (10, [.ref 1, .ref 3, .ref 5, .ref 7, .long 0, .ref 9, .ref 38, .ref 67, .ref 81, .ref 189, .int 2, .int 3]) := (fr _ (by first | decide | omega)).trans F_h142_0
                have F_h206_1 : h206 1 = .inr (7, [.ref 2, .int 0, .int 0, .long 0, .int 0]) := (fr _ (by first | decide | omega)).trans F_h142_1
                have F_h206_189 : h206 189 = .inl (1, 12, .inl (fun _ => 0)) := (fr _ (by first | decide | omega)).trans F_h142_189
                have FR_h206 : Fr h h206 (fun j => j < 190) := FR_h142.zsub fr (fun j hj => by first | omega | (have hj : j = 5 := hj; omega))
                show WX _ _ _ 209 [(0, .ref 0), (1, .int fl), (2, .int e), (3, .int cut), (4, .int 1), (5, .int (0 + 0)), (6, .int 0), (7, .int 0)] [] (n, s, h206)
                refine WX.s1 rfl rfl ?_
                refine WX.s1 (L' := [(0, .ref 0), (1, .int fl), (2, .int e), (3, .int cut), (4, .int 1), (5, .int (0 + 0)), (6, .int 0), (7, .int 0)]) rfl rfl ?_
                refine WX.s1 rfl rfl ?_
                refine WX.s1 rfl rfl ?_
                refine WX.icmp rfl (fun c_217 => ?_) (fun c_217 => absurd (by decide) c_217)
                clear c_217
                refine WX.s1 rfl rfl ?_
                refine WX.s1 rfl rfl ?_
                refine WX.s1 rfl rfl ?_
                refine WX.if_ rfl (fun c_233 => ?_) (fun c_233 => ?_)
                · skip
                  obtain ⟨ho5, hd5, F_h206_5⟩ := P_h206_nx.zobj
                  have ec : hCnt fl + 3 = pCnt fl := by
                    unfold pCnt; rw [if_pos c_233]
                  refine WX.s1 rfl rfl ?_
                  refine WX.get1 (fs := [.ref 1, .ref 3, .ref 5, .ref 7, .long 0, .ref 9, .ref 38, .ref 67, .ref 81, .ref 189, .int 2, .int 3]) rfl (ltN hn (by decide)) (F_h206_0) rfl ?_
                  refine WX.get1 (fs := [.ref 6, .int (nI (hCnt fl + 3)), .int 0, .long ho5, .int hd5]) rfl (ltN hn (by decide)) (F_h206_5) rfl ?_
                  refine WX.if_ rfl (fun c_258 => ?_) (fun c_258 => absurd (by decide) c_258)
                  clear c_258
                  refine WX.s1 rfl rfl ?_
                  refine WX.get1 (fs := [.ref 1, .ref 3, .ref 5, .ref 7, .long 0, .ref 9, .ref 38, .ref 67, .ref 81, .ref 189, .int 2, .int 3]) rfl (ltN hn (by decide)) (F_h206_0) rfl ?_
                  refine WX.get1 (fs := [.ref 82, .ref 89, .ref 108, .ref 135, .ref 162, .ref 86, .ref 87, .int 0, .ref 88]) rfl (ltN hn (by decide)) (F_h206_81) rfl ?_
                  refine WX.s1 rfl rfl ?_
                  refine WX.s1 rfl rfl ?_
                  refine WX.get1 (fs := [.ref 1, .ref 3, .ref 5, .ref 7, .long 0, .ref 9, .ref 38, .ref 67, .ref 81, .ref 189, .int 2, .int 3]) rfl (ltN hn (by decide)) (F_h206_0) rfl ?_
                  refine WX.s1 rfl rfl ?_
                  refine WX.s1 rfl rfl ?_
                  refine WX.copyN rfl (Nat.le_of_ble_eq_true rfl) (Or.inl (ltN hn (by decide))) (F_h206_88) (ltN hn (by decide)) (F_h206_189) (p := 0) (q := 0) (c := 12) rfl rfl rfl (by decide) (by decide) (by decide) (by decide) (fun g278 h278 e_g278 e_h278 => ?_)
                  have F_h278_0 : h278 0 = .inr (10, [.ref 1, .ref 3, .ref 5, .ref 7, .long 0, .ref 9, .ref 38, .ref 67, .ref 81, .ref 189, .int 2, .int 3]) := by rw [e_h278, va_up_neq (by decide)]; exact F_h206_0
                  have F_h278_1 : h278 1 = .inr (7, [.ref 2, .int 0, .int 0, .long 0, .int 0]) := by rw [e_h278, va_up_neq (by decide)]; exact F_h206_1
                  have F_h278_81 : h278 81 = .inr (6, [.ref 82, .ref 89, .ref 108, .ref 135, .ref 162, .ref 86, .ref 87, .int 0, .ref 88]) := by rw [e_h278, va_up_neq (by decide)]; exact F_h206_81
                  have F_h278_88 : h278 88 = .inl (1, 12, .inl g206) := by rw [e_h278, va_up_neq (by decide)]; exact F_h206_88
                  have F_h278_189 : h278 189 = .inl (1, 12, .inl g278) := by rw [e_h278]; exact va_up_eq
                  have F_h278_5 : h278 5 = .inr (7, [.ref 6, .int (nI (hCnt fl + 3)), .int 0, .long ho5, .int hd5]) := by rw [e_h278, va_up_neq (by decide)]; exact F_h206_5
                  have P_h278_nx : RowN h278 5 12000 (hCnt fl + 3) := P_h206_nx.zfr (Fr.of e_h278) (by decide) (by decide)
                  have FR_h278 : Fr h h278 (fun j => j < 190) := FR_h206.zup e_h278 (by first | exact rfl | exact Or.inl rfl | exact Or.inr rfl | exact ⟨by decide, by decide⟩ | decide | omega)
                  clear F_h206_0 F_h206_1 F_h206_81 F_h206_88 F_h206_189 F_h206_5 P_h206_nx FR_h206 e_h278
                  refine WX.s1 rfl rfl ?_
                  rw [ec] at F_h278_5
                  refine WX.callC (vs := [.ref 0]) rfl rfl rfl (Nat.le_of_ble_eq_true rfl) (rcv_ok (ltN hn (by decide)) F_h278_0) ?_
                  refine x_out hn F_h278_0 F_h278_5 (fun h282 fr => ?_)
                  have FR_h282 : Fr h h282 (fun j => j < 190) := FR_h278.zsub fr (fun j hj => by first | omega | (have hj : j = 5 := hj; omega))
                  show WX _ _ _ 285 [(0, .ref 0), (1, .int fl), (2, .int e), (3, .int cut), (4, .int 1), (5, .int (0 + 0)), (6, .int 0), (7, .int 0)] [.int (nI (pCnt fl))] (n, s, h282)
                  exact WX.ret1 rfl (k1 h282 hgood FR_h282)
                · skip
                  refine WX.s1 rfl rfl ?_
                  refine WX.get1 (fs := [.ref 1, .ref 3, .ref 5, .ref 7, .long 0, .ref 9, .ref 38, .ref 67, .ref 81, .ref 189, .int 2, .int 3]) rfl (ltN hn (by decide)) (F_h206_0) rfl ?_
                  refine WX.s1 rfl rfl ?_
                  refine WX.get1 (fs := [.ref 1, .ref 3, .ref 5, .ref 7, .long 0, .ref 9, .ref 38, .ref 67, .ref 81, .ref 189, .int 2, .int 3]) rfl (ltN hn (by decide)) (F_h206_0) rfl ?_
                  refine WX.callC (vs := [.ref 1]) rfl rfl rfl (Nat.le_of_ble_eq_true rfl) rfl ?_
                  refine x_sum0 hn F_h206_1 (fun x244 => ?_)
                  show WX _ _ _ 247 [(0, .ref 0), (1, .int fl), (2, .int e), (3, .int cut), (4, .int 1), (5, .int (0 + 0)), (6, .int 0), (7, .int 0)] [.long x244, .ref 5] (n, s, h206)
                  refine WX.s1 rfl rfl ?_
                  refine WX.callC (vs := [.ref 5, .long x244, .int 4]) rfl rfl rfl (Nat.le_of_ble_eq_true rfl) (P_h206_nx.rcv (ltN hn (by decide))) ?_
                  refine w_putNumN (m := 4) (ltN hn (by decide)) P_h206_nx (by have := hCnt_le fl; omega) (by decide) (by decide) (fun h248 fr P_h248_nx => ?_)
                  have F_h248_0 : h248 0 = .inr (10, [.ref 1, .ref 3, .ref 5, .ref 7, .long 0, .ref 9, .ref 38, .ref 67, .ref 81, .ref 189, .int 2, .int 3]) := (fr _ (by first | decide | omega)).trans F_h206_0
                  have F_h248_1 : h248 1 = .inr (7, [.ref 2, .int 0, .int 0, .long 0, .int 0]) := (fr _ (by first | decide | omega)).trans F_h206_1
                  have F_h248_81 : h248 81 = .inr (6, [.ref 82, .ref 89, .ref 108, .ref 135, .ref 162, .ref 86, .ref 87, .int 0, .ref 88]) := (fr _ (by first | decide | omega)).trans F_h206_81
                  have F_h248_88 : h248 88 = .inl (1, 12, .inl g206) := (fr _ (by first | decide | omega)).trans F_h206_88
                  have F_h248_189 : h248 189 = .inl (1, 12, .inl (fun _ => 0)) := (fr _ (by first | decide | omega)).trans F_h206_189
                  have FR_h248 : Fr h h248 (fun j => j < 190) := FR_h206.zsub fr (fun j hj => by first | omega | (have hj : j = 5 := hj; omega))
                  show WX _ _ _ 251 [(0, .ref 0), (1, .int fl), (2, .int e), (3, .int cut), (4, .int 1), (5, .int (0 + 0)), (6, .int 0), (7, .int 0)] [] (n, s, h248)
                  obtain ⟨ho5, hd5, F_h248_5⟩ := P_h248_nx.zobj
                  have ec : hCnt fl + 3 + 4 = pCnt fl := by
                    unfold pCnt; rw [if_neg c_233]
                  refine WX.s1 rfl rfl ?_
                  refine WX.get1 (fs := [.ref 1, .ref 3, .ref 5, .ref 7, .long 0, .ref 9, .ref 38, .ref 67, .ref 81, .ref 189, .int 2, .int 3]) rfl (ltN hn (by decide)) (F_h248_0) rfl ?_
                  refine WX.get1 (fs := [.ref 6, .int (nI (hCnt fl + 3 + 4)), .int 0, .long ho5, .int hd5]) rfl (ltN hn (by decide)) (F_h248_5) rfl ?_
                  refine WX.if_ rfl (fun c_258 => ?_) (fun c_258 => absurd (by decide) c_258)
                  clear c_258
                  refine WX.s1 rfl rfl ?_
                  refine WX.get1 (fs := [.ref 1, .ref 3, .ref 5, .ref 7, .long 0, .ref 9, .ref 38, .ref 67, .ref 81, .ref 189, .int 2, .int 3]) rfl (ltN hn (by decide)) (F_h248_0) rfl ?_
                  refine WX.get1 (fs := [.ref 82, .ref 89, .ref 108, .ref 135, .ref 162, .ref 86, .ref 87, .int 0, .ref 88]) rfl (ltN hn (by decide)) (F_h248_81) rfl ?_
                  refine WX.s1 rfl rfl ?_
                  refine WX.s1 rfl rfl ?_
                  refine WX.get1 (fs := [.ref 1, .ref 3, .ref 5, .ref 7, .long 0, .ref 9, .ref 38, .ref 67, .ref 81, .ref 189, .int 2, .int 3]) rfl (ltN hn (by decide)) (F_h248_0) rfl ?_
                  refine WX.s1 rfl rfl ?_
                  refine WX.s1 rfl rfl ?_
                  refine WX.copyN rfl (Nat.le_of_ble_eq_true rfl) (Or.inl (ltN hn (by decide))) (F_h248_88) (ltN hn (by decide)) (F_h248_189) (p := 0) (q := 0) (c := 12) rfl rfl rfl (by decide) (by decide) (by decide) (by decide) (fun g278 h278 e_g278 e_h278 => ?_)
                  have F_h278_0 : h278 0 = .inr (10, [.ref 1, .ref 3, .ref 5, .ref 7, .long 0, .ref 9, .ref 38, .ref 67, .ref 81, .ref 189, .int 2, .int 3]) := by rw [e_h278, va_up_neq (by decide)]; exact F_h248_0
                  have F_h278_1 : h278 1 = .inr (7, [.ref 2, .int 0, .int 0, .long 0, .int 0]) := by rw [e_h278, va_up_neq (by decide)]; exact F_h248_1
                  have F_h278_81 : h278 81 = .inr (6, [.ref 82, .ref 89, .ref 108, .ref 135, .ref 162, .ref 86, .ref 87, .int 0, .ref 88]) := by rw [e_h278, va_up_neq (by decide)]; exact F_h248_81
                  have F_h278_88 : h278 88 = .inl (1, 12, .inl g206) := by rw [e_h278, va_up_neq (by decide)]; exact F_h248_88
                  have F_h278_189 : h278 189 = .inl (1, 12, .inl g278) := by rw [e_h278]; exact va_up_eq
                  have F_h278_5 : h278 5 = .inr (7, [.ref 6, .int (nI (hCnt fl + 3 + 4)), .int 0, .long ho5, .int hd5]) := by rw [e_h278, va_up_neq (by decide)]; exact F_h248_5
                  have P_h278_nx : RowN h278 5 12000 (hCnt fl + 3 + 4) := P_h248_nx.zfr (Fr.of e_h278) (by decide) (by decide)
                  have FR_h278 : Fr h h278 (fun j => j < 190) := FR_h248.zup e_h278 (by first | exact rfl | exact Or.inl rfl | exact Or.inr rfl | exact ⟨by decide, by decide⟩ | decide | omega)
                  clear F_h248_0 F_h248_1 F_h248_81 F_h248_88 F_h248_189 F_h248_5 P_h248_nx FR_h248 e_h278
                  refine WX.s1 rfl rfl ?_
                  rw [ec] at F_h278_5
                  refine WX.callC (vs := [.ref 0]) rfl rfl rfl (Nat.le_of_ble_eq_true rfl) (rcv_ok (ltN hn (by decide)) F_h278_0) ?_
                  refine x_out hn F_h278_0 F_h278_5 (fun h282 fr => ?_)
                  have FR_h282 : Fr h h282 (fun j => j < 190) := FR_h278.zsub fr (fun j hj => by first | omega | (have hj : j = 5 := hj; omega))
                  show WX _ _ _ 285 [(0, .ref 0), (1, .int fl), (2, .int e), (3, .int cut), (4, .int 1), (5, .int (0 + 0)), (6, .int 0), (7, .int 0)] [.int (nI (pCnt fl))] (n, s, h282)
                  exact WX.ret1 rfl (k1 h282 hgood FR_h282)
            · skip
              refine WX.s1 rfl rfl ?_
              refine WX.ret1 rfl (k0 ?_)
              unfold pBad
              first
                | exact Or.inl c_1
                | exact Or.inr (Or.inl c_7)
                | exact Or.inr (Or.inr (Or.inl c_11))
                | exact Or.inr (Or.inr (Or.inr (Or.inl c_17)))
                | exact Or.inr (Or.inr (Or.inr (Or.inr (Or.inl c_22))))
                | exact Or.inr (Or.inr (Or.inr (Or.inr (Or.inr (Or.inl (Int32.not_le.mp c_29))))))
                | exact Or.inr (Or.inr (Or.inr (Or.inr (Or.inr (Or.inr ⟨c_37, Int32.not_le.mp c_59⟩)))))
