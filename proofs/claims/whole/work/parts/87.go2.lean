/-! Packer.go -/
def seqV1 (qs : List (Nat × Nat × Nat)) : List Nat := qs.map (fun q => q.1)
def seqV3 (qs : List (Nat × Nat × Nat)) : List Nat := qs.map (fun q => q.2.1)
theorem seqV1_snoc (qs : List (Nat × Nat × Nat)) (q : Nat × Nat × Nat) : seqV1 (qs ++ [q]) = seqV1 qs ++ [q.1] := by simp [seqV1]
theorem seqV3_snoc (qs : List (Nat × Nat × Nat)) (q : Nat × Nat × Nat) : seqV3 (qs ++ [q]) = seqV3 qs ++ [q.2.1] := by simp [seqV3]
theorem numF_len (l : Nat × Nat × Nat) (qs : List (Nat × Nat × Nat)) : (numF l qs).1.length = qs.length := by
  suffices h : ∀ (qs : List (Nat × Nat × Nat)) (x : List Nat × (Nat × Nat × Nat)), (qs.foldl numS x).1.length = x.1.length + qs.length by
    have := h qs ([], l)
    rw [List.length_nil, Nat.zero_add] at this
    exact this
  intro qs
  induction qs with
  | nil => intro x; rfl
  | cons q qs ih =>
    intro x
    show (qs.foldl numS (numS x q)).1.length = _
    rw [ih]
    show (x.1 ++ [_]).length + qs.length = _
    rw [List.length_append, List.length_singleton, List.length_cons]
    omega
set_option maxRecDepth 20000 in
theorem x_go {d n s : Nat} {h : Nat → aE} {cnt fe fle fdi fap fal fad lu lki lb lsh lbe : Int32} {D H : Nat → Nat} {dA eA a90 a91 a87 y1 v1 k1 y2 v2 k2 y3 v3 k3 : Nat → Int32} {u1 di1 ad1 u2 di2 ad2 u3 di3 ad3 : Int32} {U way least win e f : Nat} {lt : Nat × Nat × Nat}{B1 sy1 wd1 B2 sy2 wd2 B3 sy3 wd3 : Nat → Nat} {NB1 NW1 NB2 NW2 NB3 NW3 : Nat}{cho1 cho2 cho3 : Nat} {gr1 mo1 bi1 ob1 sta1 gr2 mo2 bi2 ob2 sta2 gr3 mo3 bi3 ob3 sta3 : Int32} (hn : 190 ≤ n) (hnb : n < aBig) (S1 : ColP h 3 4 35 NB1 NW1 B1 sy1 wd1) (S2 : ColP h 5 6 31 NB2 NW2 B2 sy2 wd2) (S3 : ColP h 7 8 52 NB3 NW3 B3 sy3 wd3) (hD : ∀ i, i < U → D i < 256 ∧ dA i = sb_b (D i)) (hU : U ≤ 16000) (hw : way ≤ 3) (hl3 : 3 ≤ least) (hl8 : least ≤ 8) (hwin : win < 2 ^ 30) (he : e ≤ U) (hC : ChainAt H U eA) (hH : HashOk D H) (hf : f ≤ e) (hfe : e - f ≤ 8000) (hlt : LatOk lt) (F_h_81 : h 81 = .inr (6, [.ref 82, .ref 89, .ref 108, .ref 135, .ref 162, .ref 86, .ref 87, .int cnt, .ref 88])) (F_h_82 : h 82 = .inr (3, [.ref 83, .int (nI U), .ref 84, .ref 85, .int (nI way), .int (nI least), .int (nI win), .int fe, .int fle, .int fdi, .int fap, .int fal, .int fad])) (F_h_83 : h 83 = .inl (0, 16000, .inl dA)) (F_h_84 : h 84 = .inl (1, 16000, .inl eA)) (F_h_89 : h 89 = .inr (5, [.ref 90, .ref 91, .int lu, .ref 92, .ref 96, .ref 100, .ref 67, .ref 106, .int lki, .int lb, .int lsh, .int lbe])) (F_h_90 : h 90 = .inl (0, 8000, .inl a90)) (F_h_91 : h 91 = .inl (1, 256, .inl a91)) (F_h_87 : h 87 = .inl (1, 3, .inl a87)) (F_h_108 : h 108 = .inr (1, [.ref (aBig + 3), .ref (aBig + 4), .int gr1, .ref 109, .ref 110, .ref 113, .int u1, .int di1, .int ad1, .ref 114, .ref 121, .ref 128, .ref cho1, .ref 111, .int mo1, .int bi1, .int ob1, .int sta1])) (F_h_109 : h 109 = .inl (1, 2667, .inl y1)) (F_h_110 : h 110 = .inl (1, 2667, .inl v1)) (F_h_113 : h 113 = .inl (1, 36, .inl k1)) (F_h_135 : h 135 = .inr (1, [.ref (aBig + 5), .ref (aBig + 6), .int gr2, .ref 136, .ref 137, .ref 140, .int u2, .int di2, .int ad2, .ref 141, .ref 148, .ref 155, .ref cho2, .ref 138, .int mo2, .int bi2, .int ob2, .int sta2])) (F_h_136 : h 136 = .inl (1, 2667, .inl y2)) (F_h_137 : h 137 = .inl (1, 2667, .inl v2)) (F_h_140 : h 140 = .inl (1, 32, .inl k2)) (F_h_162 : h 162 = .inr (1, [.ref (aBig + 7), .ref (aBig + 8), .int gr3, .ref 163, .ref 164, .ref 167, .int u3, .int di3, .int ad3, .ref 168, .ref 175, .ref 182, .ref cho3, .ref 165, .int mo3, .int bi3, .int ob3, .int sta3])) (F_h_163 : h 163 = .inl (1, 2667, .inl y3)) (F_h_164 : h 164 = .inl (1, 2667, .inl v3)) (F_h_167 : h 167 = .inl (1, 53, .inl k3)) (P_h_l6 : LatA h 86 lt) {Ψ : Option Value → aH → Prop} (kk : ∀ h' k p si ls qs fle fdi fap fal fad, goN D way least win e f k = (p, si, ls, qs) → e ≤ p → Fr h h' (fun j => j = 81 ∨ j = 82 ∨ j = 87 ∨ (89 ≤ j ∧ j ≤ 91) ∨ (108 ≤ j ∧ j ≤ 110) ∨ j = 113 ∨ (135 ≤ j ∧ j ≤ 137) ∨ j = 140 ∨ (162 ≤ j ∧ j ≤ 164) ∨ j = 167) → h' 81 = .inr (6, [.ref 82, .ref 89, .ref 108, .ref 135, .ref 162, .ref 86, .ref 87, .int (nI qs.length), .ref 88]) → h' 82 = .inr (3, [.ref 83, .int (nI U), .ref 84, .ref 85, .int (nI way), .int (nI least), .int (nI win), .int (nI e), .int fle, .int fdi, .int fap, .int fal, .int fad]) → h' 89 = .inr (5, [.ref 90, .ref 91, .int (nI ls.length), .ref 92, .ref 96, .ref 100, .ref 67, .ref 106, .int lki, .int lb, .int lsh, .int lbe]) → LitA h' ls → h' 108 = .inr (1, [.ref (aBig + 3), .ref (aBig + 4), .int gr1, .ref 109, .ref 110, .ref 113, .int (nI (seqV1 qs).length), .int (nI (colF sy1 wd1 (seqV1 qs)).2.1), .int (nI (colF sy1 wd1 (seqV1 qs)).2.2), .ref 114, .ref 121, .ref 128, .ref cho1, .ref 111, .int mo1, .int bi1, .int ob1, .int sta1]) → ColA h' 108 35 sy1 wd1 (seqV1 qs) → h' 135 = .inr (1, [.ref (aBig + 5), .ref (aBig + 6), .int gr2, .ref 136, .ref 137, .ref 140, .int (nI ((numF lt qs).1).length), .int (nI (colF sy2 wd2 ((numF lt qs).1)).2.1), .int (nI (colF sy2 wd2 ((numF lt qs).1)).2.2), .ref 141, .ref 148, .ref 155, .ref cho2, .ref 138, .int mo2, .int bi2, .int ob2, .int sta2]) → ColA h' 135 31 sy2 wd2 (numF lt qs).1 → h' 162 = .inr (1, [.ref (aBig + 7), .ref (aBig + 8), .int gr3, .ref 163, .ref 164, .ref 167, .int (nI (seqV3 qs).length), .int (nI (colF sy3 wd3 (seqV3 qs)).2.1), .int (nI (colF sy3 wd3 (seqV3 qs)).2.2), .ref 168, .ref 175, .ref 182, .ref cho3, .ref 165, .int mo3, .int bi3, .int ob3, .int sta3]) → ColA h' 162 52 sy3 wd3 (seqV3 qs) → LatA h' 87 (numF lt qs).2 → LatOk (numF lt qs).2 → Ψ none (n, s, h')) : WO (mM (d + 5)) 71 [.ref 81, .int (nI f), .int (nI e)] (n, s, h) Ψ := by
  refine WO.of (Nat.le_of_ble_eq_true rfl) ?_
  have FR_h : Fr h h (fun j => j = 81 ∨ j = 82 ∨ j = 87 ∨ (89 ≤ j ∧ j ≤ 91) ∨ (108 ≤ j ∧ j ≤ 110) ∨ j = 113 ∨ (135 ≤ j ∧ j ≤ 137) ∨ j = 140 ∨ (162 ≤ j ∧ j ≤ 164) ∨ j = 167) := Fr.rf
  show WX (lk tX6_go) (mM (d + 4)) Ψ 0 [(0, .ref 81), (1, .int (nI f)), (2, .int (nI e))] [] (n, s, h)
  refine WX.s1 rfl rfl ?_
  refine WX.get1 (fs := [.ref 82, .ref 89, .ref 108, .ref 135, .ref 162, .ref 86, .ref 87, .int cnt, .ref 88]) rfl (ltN hn (by decide)) (F_h_81) rfl ?_
  refine WX.callC (vs := [.ref 89]) rfl rfl rfl (Nat.le_of_ble_eq_true rfl) (rcv_ok (ltN hn (by decide)) F_h_89) ?_
  refine x_ldrop hn F_h_89 F_h_91 (fun h4 fr F_h4_89 ⟨g4, F_h4_91, z4⟩ => ?_)
  have F_h4_81 : h4 81 = .inr (6, [.ref 82, .ref 89, .ref 108, .ref 135, .ref 162, .ref 86, .ref 87, .int cnt, .ref 88]) := (fr _ (by first | decide | omega)).trans F_h_81
  have F_h4_82 : h4 82 = .inr (3, [.ref 83, .int (nI U), .ref 84, .ref 85, .int (nI way), .int (nI least), .int (nI win), .int fe, .int fle, .int fdi, .int fap, .int fal, .int fad]) := (fr _ (by first | decide | omega)).trans F_h_82
  have F_h4_83 : h4 83 = .inl (0, 16000, .inl dA) := (fr _ (by first | decide | omega)).trans F_h_83
  have F_h4_84 : h4 84 = .inl (1, 16000, .inl eA) := (fr _ (by first | decide | omega)).trans F_h_84
  have F_h4_90 : h4 90 = .inl (0, 8000, .inl a90) := (fr _ (by first | decide | omega)).trans F_h_90
  have F_h4_87 : h4 87 = .inl (1, 3, .inl a87) := (fr _ (by first | decide | omega)).trans F_h_87
  have F_h4_108 : h4 108 = .inr (1, [.ref (aBig + 3), .ref (aBig + 4), .int gr1, .ref 109, .ref 110, .ref 113, .int u1, .int di1, .int ad1, .ref 114, .ref 121, .ref 128, .ref cho1, .ref 111, .int mo1, .int bi1, .int ob1, .int sta1]) := (fr _ (by first | decide | omega)).trans F_h_108
  have F_h4_109 : h4 109 = .inl (1, 2667, .inl y1) := (fr _ (by first | decide | omega)).trans F_h_109
  have F_h4_110 : h4 110 = .inl (1, 2667, .inl v1) := (fr _ (by first | decide | omega)).trans F_h_110
  have F_h4_113 : h4 113 = .inl (1, 36, .inl k1) := (fr _ (by first | decide | omega)).trans F_h_113
  have F_h4_135 : h4 135 = .inr (1, [.ref (aBig + 5), .ref (aBig + 6), .int gr2, .ref 136, .ref 137, .ref 140, .int u2, .int di2, .int ad2, .ref 141, .ref 148, .ref 155, .ref cho2, .ref 138, .int mo2, .int bi2, .int ob2, .int sta2]) := (fr _ (by first | decide | omega)).trans F_h_135
  have F_h4_136 : h4 136 = .inl (1, 2667, .inl y2) := (fr _ (by first | decide | omega)).trans F_h_136
  have F_h4_137 : h4 137 = .inl (1, 2667, .inl v2) := (fr _ (by first | decide | omega)).trans F_h_137
  have F_h4_140 : h4 140 = .inl (1, 32, .inl k2) := (fr _ (by first | decide | omega)).trans F_h_140
  have F_h4_162 : h4 162 = .inr (1, [.ref (aBig + 7), .ref (aBig + 8), .int gr3, .ref 163, .ref 164, .ref 167, .int u3, .int di3, .int ad3, .ref 168, .ref 175, .ref 182, .ref cho3, .ref 165, .int mo3, .int bi3, .int ob3, .int sta3]) := (fr _ (by first | decide | omega)).trans F_h_162
  have F_h4_163 : h4 163 = .inl (1, 2667, .inl y3) := (fr _ (by first | decide | omega)).trans F_h_163
  have F_h4_164 : h4 164 = .inl (1, 2667, .inl v3) := (fr _ (by first | decide | omega)).trans F_h_164
  have F_h4_167 : h4 167 = .inl (1, 53, .inl k3) := (fr _ (by first | decide | omega)).trans F_h_167
  have P_h4_l6 : LatA h4 86 lt := P_h_l6.zfr fr (by first | decide | omega)
  have FR_h4 : Fr h h4 (fun j => j = 81 ∨ j = 82 ∨ j = 87 ∨ (89 ≤ j ∧ j ≤ 91) ∨ (108 ≤ j ∧ j ≤ 110) ∨ j = 113 ∨ (135 ≤ j ∧ j ≤ 137) ∨ j = 140 ∨ (162 ≤ j ∧ j ≤ 164) ∨ j = 167) := FR_h.zsub fr (fun j hj => by omega)
  show WX _ _ _ 7 [(0, .ref 81), (1, .int (nI f)), (2, .int (nI e))] [] (n, s, h4)
  refine WX.s1 rfl rfl ?_
  refine WX.get1 (fs := [.ref 82, .ref 89, .ref 108, .ref 135, .ref 162, .ref 86, .ref 87, .int cnt, .ref 88]) rfl (ltN hn (by decide)) (F_h4_81) rfl ?_
  refine WX.callC (vs := [.ref 108]) rfl rfl rfl (Nat.le_of_ble_eq_true rfl) (rcv_ok (ltN hn (by decide)) F_h4_108) ?_
  refine x_kdrop (ltN hn (by decide)) (by decide) F_h4_108 F_h4_113 (fun h11 fr F_h11_108 ⟨g11, F_h11_113, z11⟩ => ?_)
  have F_h11_81 : h11 81 = .inr (6, [.ref 82, .ref 89, .ref 108, .ref 135, .ref 162, .ref 86, .ref 87, .int cnt, .ref 88]) := (fr _ (by first | decide | omega)).trans F_h4_81
  have F_h11_82 : h11 82 = .inr (3, [.ref 83, .int (nI U), .ref 84, .ref 85, .int (nI way), .int (nI least), .int (nI win), .int fe, .int fle, .int fdi, .int fap, .int fal, .int fad]) := (fr _ (by first | decide | omega)).trans F_h4_82
  have F_h11_83 : h11 83 = .inl (0, 16000, .inl dA) := (fr _ (by first | decide | omega)).trans F_h4_83
  have F_h11_84 : h11 84 = .inl (1, 16000, .inl eA) := (fr _ (by first | decide | omega)).trans F_h4_84
  have F_h11_89 : h11 89 = .inr (5, [.ref 90, .ref 91, .int 0, .ref 92, .ref 96, .ref 100, .ref 67, .ref 106, .int lki, .int lb, .int lsh, .int lbe]) := (fr _ (by first | decide | omega)).trans F_h4_89
  have F_h11_90 : h11 90 = .inl (0, 8000, .inl a90) := (fr _ (by first | decide | omega)).trans F_h4_90
  have F_h11_91 : h11 91 = .inl (1, 256, .inl g4) := (fr _ (by first | decide | omega)).trans F_h4_91
  have F_h11_87 : h11 87 = .inl (1, 3, .inl a87) := (fr _ (by first | decide | omega)).trans F_h4_87
  have F_h11_109 : h11 109 = .inl (1, 2667, .inl y1) := (fr _ (by first | decide | omega)).trans F_h4_109
  have F_h11_110 : h11 110 = .inl (1, 2667, .inl v1) := (fr _ (by first | decide | omega)).trans F_h4_110
  have F_h11_135 : h11 135 = .inr (1, [.ref (aBig + 5), .ref (aBig + 6), .int gr2, .ref 136, .ref 137, .ref 140, .int u2, .int di2, .int ad2, .ref 141, .ref 148, .ref 155, .ref cho2, .ref 138, .int mo2, .int bi2, .int ob2, .int sta2]) := (fr _ (by first | decide | omega)).trans F_h4_135
  have F_h11_136 : h11 136 = .inl (1, 2667, .inl y2) := (fr _ (by first | decide | omega)).trans F_h4_136
  have F_h11_137 : h11 137 = .inl (1, 2667, .inl v2) := (fr _ (by first | decide | omega)).trans F_h4_137
  have F_h11_140 : h11 140 = .inl (1, 32, .inl k2) := (fr _ (by first | decide | omega)).trans F_h4_140
  have F_h11_162 : h11 162 = .inr (1, [.ref (aBig + 7), .ref (aBig + 8), .int gr3, .ref 163, .ref 164, .ref 167, .int u3, .int di3, .int ad3, .ref 168, .ref 175, .ref 182, .ref cho3, .ref 165, .int mo3, .int bi3, .int ob3, .int sta3]) := (fr _ (by first | decide | omega)).trans F_h4_162
  have F_h11_163 : h11 163 = .inl (1, 2667, .inl y3) := (fr _ (by first | decide | omega)).trans F_h4_163
  have F_h11_164 : h11 164 = .inl (1, 2667, .inl v3) := (fr _ (by first | decide | omega)).trans F_h4_164
  have F_h11_167 : h11 167 = .inl (1, 53, .inl k3) := (fr _ (by first | decide | omega)).trans F_h4_167
  have P_h11_l6 : LatA h11 86 lt := P_h4_l6.zfr fr (by first | decide | omega)
  have FR_h11 : Fr h h11 (fun j => j = 81 ∨ j = 82 ∨ j = 87 ∨ (89 ≤ j ∧ j ≤ 91) ∨ (108 ≤ j ∧ j ≤ 110) ∨ j = 113 ∨ (135 ≤ j ∧ j ≤ 137) ∨ j = 140 ∨ (162 ≤ j ∧ j ≤ 164) ∨ j = 167) := FR_h4.zsub fr (fun j hj => by omega)
  show WX _ _ _ 14 [(0, .ref 81), (1, .int (nI f)), (2, .int (nI e))] [] (n, s, h11)
  refine WX.s1 rfl rfl ?_
  refine WX.get1 (fs := [.ref 82, .ref 89, .ref 108, .ref 135, .ref 162, .ref 86, .ref 87, .int cnt, .ref 88]) rfl (ltN hn (by decide)) (F_h11_81) rfl ?_
  refine WX.callC (vs := [.ref 135]) rfl rfl rfl (Nat.le_of_ble_eq_true rfl) (rcv_ok (ltN hn (by decide)) F_h11_135) ?_
  refine x_kdrop (ltN hn (by decide)) (by decide) F_h11_135 F_h11_140 (fun h18 fr F_h18_135 ⟨g18, F_h18_140, z18⟩ => ?_)
  have F_h18_81 : h18 81 = .inr (6, [.ref 82, .ref 89, .ref 108, .ref 135, .ref 162, .ref 86, .ref 87, .int cnt, .ref 88]) := (fr _ (by first | decide | omega)).trans F_h11_81
  have F_h18_82 : h18 82 = .inr (3, [.ref 83, .int (nI U), .ref 84, .ref 85, .int (nI way), .int (nI least), .int (nI win), .int fe, .int fle, .int fdi, .int fap, .int fal, .int fad]) := (fr _ (by first | decide | omega)).trans F_h11_82
  have F_h18_83 : h18 83 = .inl (0, 16000, .inl dA) := (fr _ (by first | decide | omega)).trans F_h11_83
  have F_h18_84 : h18 84 = .inl (1, 16000, .inl eA) := (fr _ (by first | decide | omega)).trans F_h11_84
  have F_h18_89 : h18 89 = .inr (5, [.ref 90, .ref 91, .int 0, .ref 92, .ref 96, .ref 100, .ref 67, .ref 106, .int lki, .int lb, .int lsh, .int lbe]) := (fr _ (by first | decide | omega)).trans F_h11_89
  have F_h18_90 : h18 90 = .inl (0, 8000, .inl a90) := (fr _ (by first | decide | omega)).trans F_h11_90
  have F_h18_91 : h18 91 = .inl (1, 256, .inl g4) := (fr _ (by first | decide | omega)).trans F_h11_91
  have F_h18_87 : h18 87 = .inl (1, 3, .inl a87) := (fr _ (by first | decide | omega)).trans F_h11_87
  have F_h18_108 : h18 108 = .inr (1, [.ref (aBig + 3), .ref (aBig + 4), .int gr1, .ref 109, .ref 110, .ref 113, .int 0, .int 0, .int 0, .ref 114, .ref 121, .ref 128, .ref cho1, .ref 111, .int mo1, .int bi1, .int ob1, .int sta1]) := (fr _ (by first | decide | omega)).trans F_h11_108
  have F_h18_109 : h18 109 = .inl (1, 2667, .inl y1) := (fr _ (by first | decide | omega)).trans F_h11_109
  have F_h18_110 : h18 110 = .inl (1, 2667, .inl v1) := (fr _ (by first | decide | omega)).trans F_h11_110
  have F_h18_113 : h18 113 = .inl (1, 36, .inl g11) := (fr _ (by first | decide | omega)).trans F_h11_113
  have F_h18_136 : h18 136 = .inl (1, 2667, .inl y2) := (fr _ (by first | decide | omega)).trans F_h11_136
  have F_h18_137 : h18 137 = .inl (1, 2667, .inl v2) := (fr _ (by first | decide | omega)).trans F_h11_137
  have F_h18_162 : h18 162 = .inr (1, [.ref (aBig + 7), .ref (aBig + 8), .int gr3, .ref 163, .ref 164, .ref 167, .int u3, .int di3, .int ad3, .ref 168, .ref 175, .ref 182, .ref cho3, .ref 165, .int mo3, .int bi3, .int ob3, .int sta3]) := (fr _ (by first | decide | omega)).trans F_h11_162
  have F_h18_163 : h18 163 = .inl (1, 2667, .inl y3) := (fr _ (by first | decide | omega)).trans F_h11_163
  have F_h18_164 : h18 164 = .inl (1, 2667, .inl v3) := (fr _ (by first | decide | omega)).trans F_h11_164
  have F_h18_167 : h18 167 = .inl (1, 53, .inl k3) := (fr _ (by first | decide | omega)).trans F_h11_167
  have P_h18_l6 : LatA h18 86 lt := P_h11_l6.zfr fr (by first | decide | omega)
  have FR_h18 : Fr h h18 (fun j => j = 81 ∨ j = 82 ∨ j = 87 ∨ (89 ≤ j ∧ j ≤ 91) ∨ (108 ≤ j ∧ j ≤ 110) ∨ j = 113 ∨ (135 ≤ j ∧ j ≤ 137) ∨ j = 140 ∨ (162 ≤ j ∧ j ≤ 164) ∨ j = 167) := FR_h11.zsub fr (fun j hj => by omega)
  show WX _ _ _ 21 [(0, .ref 81), (1, .int (nI f)), (2, .int (nI e))] [] (n, s, h18)
  refine WX.s1 rfl rfl ?_
  refine WX.get1 (fs := [.ref 82, .ref 89, .ref 108, .ref 135, .ref 162, .ref 86, .ref 87, .int cnt, .ref 88]) rfl (ltN hn (by decide)) (F_h18_81) rfl ?_
  refine WX.callC (vs := [.ref 162]) rfl rfl rfl (Nat.le_of_ble_eq_true rfl) (rcv_ok (ltN hn (by decide)) F_h18_162) ?_
  refine x_kdrop (ltN hn (by decide)) (by decide) F_h18_162 F_h18_167 (fun h25 fr F_h25_162 ⟨g25, F_h25_167, z25⟩ => ?_)
  have F_h25_81 : h25 81 = .inr (6, [.ref 82, .ref 89, .ref 108, .ref 135, .ref 162, .ref 86, .ref 87, .int cnt, .ref 88]) := (fr _ (by first | decide | omega)).trans F_h18_81
  have F_h25_82 : h25 82 = .inr (3, [.ref 83, .int (nI U), .ref 84, .ref 85, .int (nI way), .int (nI least), .int (nI win), .int fe, .int fle, .int fdi, .int fap, .int fal, .int fad]) := (fr _ (by first | decide | omega)).trans F_h18_82
  have F_h25_83 : h25 83 = .inl (0, 16000, .inl dA) := (fr _ (by first | decide | omega)).trans F_h18_83
  have F_h25_84 : h25 84 = .inl (1, 16000, .inl eA) := (fr _ (by first | decide | omega)).trans F_h18_84
  have F_h25_89 : h25 89 = .inr (5, [.ref 90, .ref 91, .int 0, .ref 92, .ref 96, .ref 100, .ref 67, .ref 106, .int lki, .int lb, .int lsh, .int lbe]) := (fr _ (by first | decide | omega)).trans F_h18_89
  have F_h25_90 : h25 90 = .inl (0, 8000, .inl a90) := (fr _ (by first | decide | omega)).trans F_h18_90
  have F_h25_91 : h25 91 = .inl (1, 256, .inl g4) := (fr _ (by first | decide | omega)).trans F_h18_91
  have F_h25_87 : h25 87 = .inl (1, 3, .inl a87) := (fr _ (by first | decide | omega)).trans F_h18_87
  have F_h25_108 : h25 108 = .inr (1, [.ref (aBig + 3), .ref (aBig + 4), .int gr1, .ref 109, .ref 110, .ref 113, .int 0, .int 0, .int 0, .ref 114, .ref 121, .ref 128, .ref cho1, .ref 111, .int mo1, .int bi1, .int ob1, .int sta1]) := (fr _ (by first | decide | omega)).trans F_h18_108
  have F_h25_109 : h25 109 = .inl (1, 2667, .inl y1) := (fr _ (by first | decide | omega)).trans F_h18_109
  have F_h25_110 : h25 110 = .inl (1, 2667, .inl v1) := (fr _ (by first | decide | omega)).trans F_h18_110
  have F_h25_113 : h25 113 = .inl (1, 36, .inl g11) := (fr _ (by first | decide | omega)).trans F_h18_113
  have F_h25_135 : h25 135 = .inr (1, [.ref (aBig + 5), .ref (aBig + 6), .int gr2, .ref 136, .ref 137, .ref 140, .int 0, .int 0, .int 0, .ref 141, .ref 148, .ref 155, .ref cho2, .ref 138, .int mo2, .int bi2, .int ob2, .int sta2]) := (fr _ (by first | decide | omega)).trans F_h18_135
  have F_h25_136 : h25 136 = .inl (1, 2667, .inl y2) := (fr _ (by first | decide | omega)).trans F_h18_136
  have F_h25_137 : h25 137 = .inl (1, 2667, .inl v2) := (fr _ (by first | decide | omega)).trans F_h18_137
  have F_h25_140 : h25 140 = .inl (1, 32, .inl g18) := (fr _ (by first | decide | omega)).trans F_h18_140
  have F_h25_163 : h25 163 = .inl (1, 2667, .inl y3) := (fr _ (by first | decide | omega)).trans F_h18_163
  have F_h25_164 : h25 164 = .inl (1, 2667, .inl v3) := (fr _ (by first | decide | omega)).trans F_h18_164
  have P_h25_l6 : LatA h25 86 lt := P_h18_l6.zfr fr (by first | decide | omega)
  have FR_h25 : Fr h h25 (fun j => j = 81 ∨ j = 82 ∨ j = 87 ∨ (89 ≤ j ∧ j ≤ 91) ∨ (108 ≤ j ∧ j ≤ 110) ∨ j = 113 ∨ (135 ≤ j ∧ j ≤ 137) ∨ j = 140 ∨ (162 ≤ j ∧ j ≤ 164) ∨ j = 167) := FR_h18.zsub fr (fun j hj => by omega)
  show WX _ _ _ 28 [(0, .ref 81), (1, .int (nI f)), (2, .int (nI e))] [] (n, s, h25)
  refine WX.s1 rfl rfl ?_
  refine WX.s1 rfl rfl ?_
  refine WX.put1 (fs := [.ref 82, .ref 89, .ref 108, .ref 135, .ref 162, .ref 86, .ref 87, .int cnt, .ref 88]) (fs' := [.ref 82, .ref 89, .ref 108, .ref 135, .ref 162, .ref 86, .ref 87, .int 0, .ref 88]) rfl (ltN hn (by decide)) (F_h25_81) (Nat.le_of_ble_eq_true rfl) (rfl) rfl (fun h30 e_h30 => ?_)
  have F_h30_81 : h30 81 = .inr (6, [.ref 82, .ref 89, .ref 108, .ref 135, .ref 162, .ref 86, .ref 87, .int 0, .ref 88]) := by rw [e_h30]; exact va_up_eq
  have F_h30_82 : h30 82 = .inr (3, [.ref 83, .int (nI U), .ref 84, .ref 85, .int (nI way), .int (nI least), .int (nI win), .int fe, .int fle, .int fdi, .int fap, .int fal, .int fad]) := by rw [e_h30, va_up_neq (by decide)]; exact F_h25_82
  have F_h30_83 : h30 83 = .inl (0, 16000, .inl dA) := by rw [e_h30, va_up_neq (by decide)]; exact F_h25_83
  have F_h30_84 : h30 84 = .inl (1, 16000, .inl eA) := by rw [e_h30, va_up_neq (by decide)]; exact F_h25_84
  have F_h30_89 : h30 89 = .inr (5, [.ref 90, .ref 91, .int 0, .ref 92, .ref 96, .ref 100, .ref 67, .ref 106, .int lki, .int lb, .int lsh, .int lbe]) := by rw [e_h30, va_up_neq (by decide)]; exact F_h25_89
  have F_h30_90 : h30 90 = .inl (0, 8000, .inl a90) := by rw [e_h30, va_up_neq (by decide)]; exact F_h25_90
  have F_h30_91 : h30 91 = .inl (1, 256, .inl g4) := by rw [e_h30, va_up_neq (by decide)]; exact F_h25_91
  have F_h30_87 : h30 87 = .inl (1, 3, .inl a87) := by rw [e_h30, va_up_neq (by decide)]; exact F_h25_87
  have F_h30_108 : h30 108 = .inr (1, [.ref (aBig + 3), .ref (aBig + 4), .int gr1, .ref 109, .ref 110, .ref 113, .int 0, .int 0, .int 0, .ref 114, .ref 121, .ref 128, .ref cho1, .ref 111, .int mo1, .int bi1, .int ob1, .int sta1]) := by rw [e_h30, va_up_neq (by decide)]; exact F_h25_108
  have F_h30_109 : h30 109 = .inl (1, 2667, .inl y1) := by rw [e_h30, va_up_neq (by decide)]; exact F_h25_109
  have F_h30_110 : h30 110 = .inl (1, 2667, .inl v1) := by rw [e_h30, va_up_neq (by decide)]; exact F_h25_110
  have F_h30_113 : h30 113 = .inl (1, 36, .inl g11) := by rw [e_h30, va_up_neq (by decide)]; exact F_h25_113
  have F_h30_135 : h30 135 = .inr (1, [.ref (aBig + 5), .ref (aBig + 6), .int gr2, .ref 136, .ref 137, .ref 140, .int 0, .int 0, .int 0, .ref 141, .ref 148, .ref 155, .ref cho2, .ref 138, .int mo2, .int bi2, .int ob2, .int sta2]) := by rw [e_h30, va_up_neq (by decide)]; exact F_h25_135
  have F_h30_136 : h30 136 = .inl (1, 2667, .inl y2) := by rw [e_h30, va_up_neq (by decide)]; exact F_h25_136
  have F_h30_137 : h30 137 = .inl (1, 2667, .inl v2) := by rw [e_h30, va_up_neq (by decide)]; exact F_h25_137
  have F_h30_140 : h30 140 = .inl (1, 32, .inl g18) := by rw [e_h30, va_up_neq (by decide)]; exact F_h25_140
  have F_h30_162 : h30 162 = .inr (1, [.ref (aBig + 7), .ref (aBig + 8), .int gr3, .ref 163, .ref 164, .ref 167, .int 0, .int 0, .int 0, .ref 168, .ref 175, .ref 182, .ref cho3, .ref 165, .int mo3, .int bi3, .int ob3, .int sta3]) := by rw [e_h30, va_up_neq (by decide)]; exact F_h25_162
  have F_h30_163 : h30 163 = .inl (1, 2667, .inl y3) := by rw [e_h30, va_up_neq (by decide)]; exact F_h25_163
  have F_h30_164 : h30 164 = .inl (1, 2667, .inl v3) := by rw [e_h30, va_up_neq (by decide)]; exact F_h25_164
  have F_h30_167 : h30 167 = .inl (1, 53, .inl g25) := by rw [e_h30, va_up_neq (by decide)]; exact F_h25_167
  have P_h30_l6 : LatA h30 86 lt := P_h25_l6.zfr (Fr.of e_h30) (by decide)
  have FR_h30 : Fr h h30 (fun j => j = 81 ∨ j = 82 ∨ j = 87 ∨ (89 ≤ j ∧ j ≤ 91) ∨ (108 ≤ j ∧ j ≤ 110) ∨ j = 113 ∨ (135 ≤ j ∧ j ≤ 137) ∨ j = 140 ∨ (162 ≤ j ∧ j ≤ 164) ∨ j = 167) := FR_h25.zup e_h30 (by first | exact rfl | exact Or.inl rfl | exact Or.inr rfl | exact ⟨by decide, by decide⟩ | decide | omega)
  clear F_h25_81 F_h25_82 F_h25_83 F_h25_84 F_h25_89 F_h25_90 F_h25_91 F_h25_87 F_h25_108 F_h25_109 F_h25_110 F_h25_113 F_h25_135 F_h25_136 F_h25_137 F_h25_140 F_h25_162 F_h25_163 F_h25_164 F_h25_167 P_h25_l6 FR_h25 e_h30
  obtain ⟨a86, F_h30_86, l60, l61, l62⟩ := P_h30_l6
  refine WX.s1 rfl rfl ?_
  refine WX.get1 (fs := [.ref 82, .ref 89, .ref 108, .ref 135, .ref 162, .ref 86, .ref 87, .int 0, .ref 88]) rfl (ltN hn (by decide)) (F_h30_81) rfl ?_
  refine WX.s1 rfl rfl ?_
  refine WX.s1 rfl rfl ?_
  refine WX.get1 (fs := [.ref 82, .ref 89, .ref 108, .ref 135, .ref 162, .ref 86, .ref 87, .int 0, .ref 88]) rfl (ltN hn (by decide)) (F_h30_81) rfl ?_
  refine WX.s1 rfl rfl ?_
  refine WX.s1 rfl rfl ?_
  refine WX.get1 (fs := [.ref 82, .ref 89, .ref 108, .ref 135, .ref 162, .ref 86, .ref 87, .int 0, .ref 88]) rfl (ltN hn (by decide)) (F_h30_81) rfl ?_
  refine WX.len1 rfl (Or.inl ⟨ltN hn (by decide), by decide⟩) (F_h30_87) ?_
  refine WX.copyN rfl (Nat.le_of_ble_eq_true rfl) (Or.inl (ltN hn (by decide))) (F_h30_86) (ltN hn (by decide)) (F_h30_87) (p := 0) (q := 0) (c := 3) rfl rfl rfl (by decide) (by decide) (by decide) (by decide) (fun g48 h48 e_g48 e_h48 => ?_)
  have F_h48_81 : h48 81 = .inr (6, [.ref 82, .ref 89, .ref 108, .ref 135, .ref 162, .ref 86, .ref 87, .int 0, .ref 88]) := by rw [e_h48, va_up_neq (by decide)]; exact F_h30_81
  have F_h48_82 : h48 82 = .inr (3, [.ref 83, .int (nI U), .ref 84, .ref 85, .int (nI way), .int (nI least), .int (nI win), .int fe, .int fle, .int fdi, .int fap, .int fal, .int fad]) := by rw [e_h48, va_up_neq (by decide)]; exact F_h30_82
  have F_h48_83 : h48 83 = .inl (0, 16000, .inl dA) := by rw [e_h48, va_up_neq (by decide)]; exact F_h30_83
  have F_h48_84 : h48 84 = .inl (1, 16000, .inl eA) := by rw [e_h48, va_up_neq (by decide)]; exact F_h30_84
  have F_h48_89 : h48 89 = .inr (5, [.ref 90, .ref 91, .int 0, .ref 92, .ref 96, .ref 100, .ref 67, .ref 106, .int lki, .int lb, .int lsh, .int lbe]) := by rw [e_h48, va_up_neq (by decide)]; exact F_h30_89
  have F_h48_90 : h48 90 = .inl (0, 8000, .inl a90) := by rw [e_h48, va_up_neq (by decide)]; exact F_h30_90
  have F_h48_91 : h48 91 = .inl (1, 256, .inl g4) := by rw [e_h48, va_up_neq (by decide)]; exact F_h30_91
  have F_h48_87 : h48 87 = .inl (1, 3, .inl g48) := by rw [e_h48]; exact va_up_eq
  have F_h48_108 : h48 108 = .inr (1, [.ref (aBig + 3), .ref (aBig + 4), .int gr1, .ref 109, .ref 110, .ref 113, .int 0, .int 0, .int 0, .ref 114, .ref 121, .ref 128, .ref cho1, .ref 111, .int mo1, .int bi1, .int ob1, .int sta1]) := by rw [e_h48, va_up_neq (by decide)]; exact F_h30_108
  have F_h48_109 : h48 109 = .inl (1, 2667, .inl y1) := by rw [e_h48, va_up_neq (by decide)]; exact F_h30_109
  have F_h48_110 : h48 110 = .inl (1, 2667, .inl v1) := by rw [e_h48, va_up_neq (by decide)]; exact F_h30_110
  have F_h48_113 : h48 113 = .inl (1, 36, .inl g11) := by rw [e_h48, va_up_neq (by decide)]; exact F_h30_113
  have F_h48_135 : h48 135 = .inr (1, [.ref (aBig + 5), .ref (aBig + 6), .int gr2, .ref 136, .ref 137, .ref 140, .int 0, .int 0, .int 0, .ref 141, .ref 148, .ref 155, .ref cho2, .ref 138, .int mo2, .int bi2, .int ob2, .int sta2]) := by rw [e_h48, va_up_neq (by decide)]; exact F_h30_135
  have F_h48_136 : h48 136 = .inl (1, 2667, .inl y2) := by rw [e_h48, va_up_neq (by decide)]; exact F_h30_136
  have F_h48_137 : h48 137 = .inl (1, 2667, .inl v2) := by rw [e_h48, va_up_neq (by decide)]; exact F_h30_137
  have F_h48_140 : h48 140 = .inl (1, 32, .inl g18) := by rw [e_h48, va_up_neq (by decide)]; exact F_h30_140
  have F_h48_162 : h48 162 = .inr (1, [.ref (aBig + 7), .ref (aBig + 8), .int gr3, .ref 163, .ref 164, .ref 167, .int 0, .int 0, .int 0, .ref 168, .ref 175, .ref 182, .ref cho3, .ref 165, .int mo3, .int bi3, .int ob3, .int sta3]) := by rw [e_h48, va_up_neq (by decide)]; exact F_h30_162
  have F_h48_163 : h48 163 = .inl (1, 2667, .inl y3) := by rw [e_h48, va_up_neq (by decide)]; exact F_h30_163
  have F_h48_164 : h48 164 = .inl (1, 2667, .inl v3) := by rw [e_h48, va_up_neq (by decide)]; exact F_h30_164
  have F_h48_167 : h48 167 = .inl (1, 53, .inl g25) := by rw [e_h48, va_up_neq (by decide)]; exact F_h30_167
  have F_h48_86 : h48 86 = .inl (1, 3, .inl a86) := by rw [e_h48, va_up_neq (by decide)]; exact F_h30_86
  have FR_h48 : Fr h h48 (fun j => j = 81 ∨ j = 82 ∨ j = 87 ∨ (89 ≤ j ∧ j ≤ 91) ∨ (108 ≤ j ∧ j ≤ 110) ∨ j = 113 ∨ (135 ≤ j ∧ j ≤ 137) ∨ j = 140 ∨ (162 ≤ j ∧ j ≤ 164) ∨ j = 167) := FR_h30.zup e_h48 (by first | exact rfl | exact Or.inl rfl | exact Or.inr rfl | exact ⟨by decide, by decide⟩ | decide | omega)
  clear F_h30_81 F_h30_82 F_h30_83 F_h30_84 F_h30_89 F_h30_90 F_h30_91 F_h30_87 F_h30_108 F_h30_109 F_h30_110 F_h30_113 F_h30_135 F_h30_136 F_h30_137 F_h30_140 F_h30_162 F_h30_163 F_h30_164 F_h30_167 F_h30_86 FR_h30 e_h48
  refine WX.s1 rfl rfl ?_
  refine WX.get1 (fs := [.ref 82, .ref 89, .ref 108, .ref 135, .ref 162, .ref 86, .ref 87, .int 0, .ref 88]) rfl (ltN hn (by decide)) (F_h48_81) rfl ?_
  refine WX.s1 rfl rfl ?_
  refine WX.callC (vs := [.ref 82, .int (nI e)]) rfl rfl rfl (Nat.le_of_ble_eq_true rfl) (rcv_ok (ltN hn (by decide)) F_h48_82) ?_
  refine x_endAt (ne := nI e) hn (if_neg (nI_nlt he (by omega))) F_h48_82 (fun h56 fr F_h56_82 => ?_)
  have F_h56_81 : h56 81 = .inr (6, [.ref 82, .ref 89, .ref 108, .ref 135, .ref 162, .ref 86, .ref 87, .int 0, .ref 88]) := (fr _ (by first | decide | omega)).trans F_h48_81
  have F_h56_83 : h56 83 = .inl (0, 16000, .inl dA) := (fr _ (by first | decide | omega)).trans F_h48_83
  have F_h56_84 : h56 84 = .inl (1, 16000, .inl eA) := (fr _ (by first | decide | omega)).trans F_h48_84
  have F_h56_89 : h56 89 = .inr (5, [.ref 90, .ref 91, .int 0, .ref 92, .ref 96, .ref 100, .ref 67, .ref 106, .int lki, .int lb, .int lsh, .int lbe]) := (fr _ (by first | decide | omega)).trans F_h48_89
  have F_h56_90 : h56 90 = .inl (0, 8000, .inl a90) := (fr _ (by first | decide | omega)).trans F_h48_90
  have F_h56_91 : h56 91 = .inl (1, 256, .inl g4) := (fr _ (by first | decide | omega)).trans F_h48_91
  have F_h56_87 : h56 87 = .inl (1, 3, .inl g48) := (fr _ (by first | decide | omega)).trans F_h48_87
  have F_h56_108 : h56 108 = .inr (1, [.ref (aBig + 3), .ref (aBig + 4), .int gr1, .ref 109, .ref 110, .ref 113, .int 0, .int 0, .int 0, .ref 114, .ref 121, .ref 128, .ref cho1, .ref 111, .int mo1, .int bi1, .int ob1, .int sta1]) := (fr _ (by first | decide | omega)).trans F_h48_108
  have F_h56_109 : h56 109 = .inl (1, 2667, .inl y1) := (fr _ (by first | decide | omega)).trans F_h48_109
  have F_h56_110 : h56 110 = .inl (1, 2667, .inl v1) := (fr _ (by first | decide | omega)).trans F_h48_110
  have F_h56_113 : h56 113 = .inl (1, 36, .inl g11) := (fr _ (by first | decide | omega)).trans F_h48_113
  have F_h56_135 : h56 135 = .inr (1, [.ref (aBig + 5), .ref (aBig + 6), .int gr2, .ref 136, .ref 137, .ref 140, .int 0, .int 0, .int 0, .ref 141, .ref 148, .ref 155, .ref cho2, .ref 138, .int mo2, .int bi2, .int ob2, .int sta2]) := (fr _ (by first | decide | omega)).trans F_h48_135
  have F_h56_136 : h56 136 = .inl (1, 2667, .inl y2) := (fr _ (by first | decide | omega)).trans F_h48_136
  have F_h56_137 : h56 137 = .inl (1, 2667, .inl v2) := (fr _ (by first | decide | omega)).trans F_h48_137
  have F_h56_140 : h56 140 = .inl (1, 32, .inl g18) := (fr _ (by first | decide | omega)).trans F_h48_140
  have F_h56_162 : h56 162 = .inr (1, [.ref (aBig + 7), .ref (aBig + 8), .int gr3, .ref 163, .ref 164, .ref 167, .int 0, .int 0, .int 0, .ref 168, .ref 175, .ref 182, .ref cho3, .ref 165, .int mo3, .int bi3, .int ob3, .int sta3]) := (fr _ (by first | decide | omega)).trans F_h48_162
  have F_h56_163 : h56 163 = .inl (1, 2667, .inl y3) := (fr _ (by first | decide | omega)).trans F_h48_163
  have F_h56_164 : h56 164 = .inl (1, 2667, .inl v3) := (fr _ (by first | decide | omega)).trans F_h48_164
  have F_h56_167 : h56 167 = .inl (1, 53, .inl g25) := (fr _ (by first | decide | omega)).trans F_h48_167
  have F_h56_86 : h56 86 = .inl (1, 3, .inl a86) := (fr _ (by first | decide | omega)).trans F_h48_86
  have FR_h56 : Fr h h56 (fun j => j = 81 ∨ j = 82 ∨ j = 87 ∨ (89 ≤ j ∧ j ≤ 91) ∨ (108 ≤ j ∧ j ≤ 110) ∨ j = 113 ∨ (135 ≤ j ∧ j ≤ 137) ∨ j = 140 ∨ (162 ≤ j ∧ j ≤ 164) ∨ j = 167) := FR_h48.zsub fr (fun j hj => by omega)
  show WX _ _ _ 59 [(0, .ref 81), (1, .int (nI f)), (2, .int (nI e))] [] (n, s, h56)
  refine WX.s1 rfl rfl ?_
  refine WX.s1 (L' := [(0, .ref 81), (1, .int (nI f)), (2, .int (nI e)), (3, .int (nI f))]) rfl rfl ?_
  refine WX.s1 rfl rfl ?_
  refine WX.s1 (L' := [(0, .ref 81), (1, .int (nI f)), (2, .int (nI e)), (3, .int (nI f)), (4, .int (nI f))]) rfl rfl ?_
  have lp : ∀ (t k p si : Nat) (ls : List Nat) (qs : List (Nat × Nat × Nat)) (hL : Nat → aE) (xle xdi xap xal xad : Int32), e - p ≤ t → goN D way least win e f k = (p, si, ls, qs) → AhOk D way least win e xap xal xad → LatOk (numF lt qs).2 → Fr h hL (fun j => j = 81 ∨ j = 82 ∨ j = 87 ∨ (89 ≤ j ∧ j ≤ 91) ∨ (108 ≤ j ∧ j ≤ 110) ∨ j = 113 ∨ (135 ≤ j ∧ j ≤ 137) ∨ j = 140 ∨ (162 ≤ j ∧ j ≤ 164) ∨ j = 167) → hL 81 = .inr (6, [.ref 82, .ref 89, .ref 108, .ref 135, .ref 162, .ref 86, .ref 87, .int (nI qs.length), .ref 88]) → hL 82 = .inr (3, [.ref 83, .int (nI U), .ref 84, .ref 85, .int (nI way), .int (nI least), .int (nI win), .int (nI e), .int xle, .int xdi, .int xap, .int xal, .int xad]) → hL 89 = .inr (5, [.ref 90, .ref 91, .int (nI ls.length), .ref 92, .ref 96, .ref 100, .ref 67, .ref 106, .int lki, .int lb, .int lsh, .int lbe]) → hL 108 = .inr (1, [.ref (aBig + 3), .ref (aBig + 4), .int gr1, .ref 109, .ref 110, .ref 113, .int (nI (seqV1 qs).length), .int (nI (colF sy1 wd1 (seqV1 qs)).2.1), .int (nI (colF sy1 wd1 (seqV1 qs)).2.2), .ref 114, .ref 121, .ref 128, .ref cho1, .ref 111, .int mo1, .int bi1, .int ob1, .int sta1]) → hL 135 = .inr (1, [.ref (aBig + 5), .ref (aBig + 6), .int gr2, .ref 136, .ref 137, .ref 140, .int (nI ((numF lt qs).1).length), .int (nI (colF sy2 wd2 ((numF lt qs).1)).2.1), .int (nI (colF sy2 wd2 ((numF lt qs).1)).2.2), .ref 141, .ref 148, .ref 155, .ref cho2, .ref 138, .int mo2, .int bi2, .int ob2, .int sta2]) → hL 162 = .inr (1, [.ref (aBig + 7), .ref (aBig + 8), .int gr3, .ref 163, .ref 164, .ref 167, .int (nI (seqV3 qs).length), .int (nI (colF sy3 wd3 (seqV3 qs)).2.1), .int (nI (colF sy3 wd3 (seqV3 qs)).2.2), .ref 168, .ref 175, .ref 182, .ref cho3, .ref 165, .int mo3, .int bi3, .int ob3, .int sta3]) → LitA hL ls → ColA hL 108 35 sy1 wd1 (seqV1 qs) → ColA hL 135 31 sy2 wd2 (numF lt qs).1 → ColA hL 162 52 sy3 wd3 (seqV3 qs) → LatA hL 87 (numF lt qs).2 → WX (lk tX6_go) (mM (d + 4)) Ψ 64 [(0, .ref 81), (1, .int (nI f)), (2, .int (nI e)), (3, .int (nI (p - si))), (4, .int (nI p))] [] (n, s, hL) := by
    have F0_83 : h 83 = .inl (0, 16000, .inl dA) := (FR_h56 83 (by decide)).symm.trans F_h56_83
    have F0_84 : h 84 = .inl (1, 16000, .inl eA) := (FR_h56 84 (by decide)).symm.trans F_h56_84
    clear F_h56_81 F_h56_82 F_h56_83 F_h56_84 F_h56_89 F_h56_90 F_h56_91 F_h56_87 F_h56_108 F_h56_109 F_h56_110 F_h56_113 F_h56_135 F_h56_136 F_h56_137 F_h56_140 F_h56_162 F_h56_163 F_h56_164 F_h56_167 F_h56_86
    intro t
    induction t with
    | zero =>
      intro k p si ls qs hL xle xdi xap xal xad ht hG hAh hlo FR_hL F_hL_81 F_hL_82 F_hL_89 F_hL_108 F_hL_135 F_hL_162 P_hL_li P_hL_k1 P_hL_k2 P_hL_k3 P_hL_la
      have hok := goN_ok (D := D) (way := way) (win := win) (e := e) (f := f) hl3 hf k
      rw [hG] at hok
      obtain ⟨o1, o2, o3, o4⟩ : f ≤ p ∧ p ≤ e ∧ f + si ≤ p ∧ f + ls.length + 3 * qs.length ≤ p := hok
      refine WX.s1 rfl rfl ?_
      refine WX.s1 rfl rfl ?_
      refine WX.icmp rfl (fun c_67 => ?_) (fun c_67 => absurd ((nI_leI (a := e) (b := p) (by omega) (by omega)).mpr (by omega)) c_67)
      clear c_67
      exact WX.ret0 rfl (kk hL k p si ls qs xle xdi xap xal xad hG (by omega) FR_hL F_hL_81 F_hL_82 F_hL_89 P_hL_li F_hL_108 P_hL_k1 F_hL_135 P_hL_k2 F_hL_162 P_hL_k3 P_hL_la hlo)
    | succ t ih =>
      intro k p si ls qs hL xle xdi xap xal xad ht hG hAh hlo FR_hL F_hL_81 F_hL_82 F_hL_89 F_hL_108 F_hL_135 F_hL_162 P_hL_li P_hL_k1 P_hL_k2 P_hL_k3 P_hL_la
      have hok := goN_ok (D := D) (way := way) (win := win) (e := e) (f := f) hl3 hf k
      rw [hG] at hok
      obtain ⟨o1, o2, o3, o4⟩ : f ≤ p ∧ p ≤ e ∧ f + si ≤ p ∧ f + ls.length + 3 * qs.length ≤ p := hok
      have F_hL_83 : hL 83 = .inl (0, 16000, .inl dA) := (FR_hL 83 (by decide)).trans F0_83
      have F_hL_84 : hL 84 = .inl (1, 16000, .inl eA) := (FR_hL 84 (by decide)).trans F0_84
      have htl := tk_le D way least win e p
      refine WX.s1 rfl rfl ?_
      refine WX.s1 rfl rfl ?_
      refine WX.icmp rfl (fun c_67 => ?_) (fun c_67 => ?_)
      · skip
        have n_67 : e ≤ p := (nI_leI (a := e) (b := p) (by omega) (by omega)).mp c_67
        exact WX.ret0 rfl (kk hL k p si ls qs xle xdi xap xal xad hG (by omega) FR_hL F_hL_81 F_hL_82 F_hL_89 P_hL_li F_hL_108 P_hL_k1 F_hL_135 P_hL_k2 F_hL_162 P_hL_k3 P_hL_la hlo)
      · skip
        have n_67 : p < e := Nat.lt_of_not_le (fun zz_ => c_67 ((nI_leI (a := e) (b := p) (by omega) (by omega)).mpr zz_))
        refine WX.s1 rfl rfl ?_
        refine WX.get1 (fs := [.ref 82, .ref 89, .ref 108, .ref 135, .ref 162, .ref 86, .ref 87, .int (nI qs.length), .ref 88]) rfl (ltN hn (by decide)) (F_hL_81) rfl ?_
        refine WX.s1 rfl rfl ?_
        refine WX.callC (vs := [.ref 82, .int (nI p)]) rfl rfl rfl (Nat.le_of_ble_eq_true rfl) (rcv_ok (ltN hn (by decide)) F_hL_82) ?_
        refine x_find hn hD hU hw hl3 hl8 hwin he (by omega) hC hH hAh F_hL_82 F_hL_83 F_hL_84 (fun h76 dd ap al ad fr F_h76_82 hdd hAh2 => ?_)
        have F_h76_81 : h76 81 = .inr (6, [.ref 82, .ref 89, .ref 108, .ref 135, .ref 162, .ref 86, .ref 87, .int (nI qs.length), .ref 88]) := (fr _ (by first | decide | omega)).trans F_hL_81
        have F_h76_89 : h76 89 = .inr (5, [.ref 90, .ref 91, .int (nI ls.length), .ref 92, .ref 96, .ref 100, .ref 67, .ref 106, .int lki, .int lb, .int lsh, .int lbe]) := (fr _ (by first | decide | omega)).trans F_hL_89
        have F_h76_108 : h76 108 = .inr (1, [.ref (aBig + 3), .ref (aBig + 4), .int gr1, .ref 109, .ref 110, .ref 113, .int (nI (seqV1 qs).length), .int (nI (colF sy1 wd1 (seqV1 qs)).2.1), .int (nI (colF sy1 wd1 (seqV1 qs)).2.2), .ref 114, .ref 121, .ref 128, .ref cho1, .ref 111, .int mo1, .int bi1, .int ob1, .int sta1]) := (fr _ (by first | decide | omega)).trans F_hL_108
        have F_h76_135 : h76 135 = .inr (1, [.ref (aBig + 5), .ref (aBig + 6), .int gr2, .ref 136, .ref 137, .ref 140, .int (nI ((numF lt qs).1).length), .int (nI (colF sy2 wd2 ((numF lt qs).1)).2.1), .int (nI (colF sy2 wd2 ((numF lt qs).1)).2.2), .ref 141, .ref 148, .ref 155, .ref cho2, .ref 138, .int mo2, .int bi2, .int ob2, .int sta2]) := (fr _ (by first | decide | omega)).trans F_hL_135
        have F_h76_162 : h76 162 = .inr (1, [.ref (aBig + 7), .ref (aBig + 8), .int gr3, .ref 163, .ref 164, .ref 167, .int (nI (seqV3 qs).length), .int (nI (colF sy3 wd3 (seqV3 qs)).2.1), .int (nI (colF sy3 wd3 (seqV3 qs)).2.2), .ref 168, .ref 175, .ref 182, .ref cho3, .ref 165, .int mo3, .int bi3, .int ob3, .int sta3]) := (fr _ (by first | decide | omega)).trans F_hL_162
        have F_h76_83 : h76 83 = .inl (0, 16000, .inl dA) := (fr _ (by first | decide | omega)).trans F_hL_83
        have F_h76_84 : h76 84 = .inl (1, 16000, .inl eA) := (fr _ (by first | decide | omega)).trans F_hL_84
        have P_h76_k1 : ColA h76 108 35 sy1 wd1 (seqV1 qs) := P_hL_k1.zfr fr (by first | decide | omega) (by first | decide | omega) (by first | decide | omega)
        have P_h76_k2 : ColA h76 135 31 sy2 wd2 ((numF lt qs).1) := P_hL_k2.zfr fr (by first | decide | omega) (by first | decide | omega) (by first | decide | omega)
        have P_h76_k3 : ColA h76 162 52 sy3 wd3 (seqV3 qs) := P_hL_k3.zfr fr (by first | decide | omega) (by first | decide | omega) (by first | decide | omega)
        have P_h76_li : LitA h76 ls := P_hL_li.zfr fr (by first | decide | omega) (by first | decide | omega)
        have P_h76_la : LatA h76 87 ((numF lt qs).2) := P_hL_la.zfr fr (by first | decide | omega)
        have FR_h76 : Fr h h76 (fun j => j = 81 ∨ j = 82 ∨ j = 87 ∨ (89 ≤ j ∧ j ≤ 91) ∨ (108 ≤ j ∧ j ≤ 110) ∨ j = 113 ∨ (135 ≤ j ∧ j ≤ 137) ∨ j = 140 ∨ (162 ≤ j ∧ j ≤ 164) ∨ j = 167) := FR_hL.zsub fr (fun j hj => by omega)
        show WX _ _ _ 79 [(0, .ref 81), (1, .int (nI f)), (2, .int (nI e)), (3, .int (nI (p - si))), (4, .int (nI p))] [] (n, s, h76)
        refine WX.s1 rfl rfl ?_
        refine WX.get1 (fs := [.ref 82, .ref 89, .ref 108, .ref 135, .ref 162, .ref 86, .ref 87, .int (nI qs.length), .ref 88]) rfl (ltN hn (by decide)) (F_h76_81) rfl ?_
        refine WX.get1 (fs := [.ref 83, .int (nI U), .ref 84, .ref 85, .int (nI way), .int (nI least), .int (nI win), .int (nI e), .int (nI (tk D way least win e p)), .int dd, .int ap, .int al, .int ad]) rfl (ltN hn (by decide)) (F_h76_82) rfl ?_
        refine WX.if_ rfl (fun c_86 => ?_) (fun c_86 => ?_)
        · skip
          have n_86 : ¬ (tk D way least win e p) = 0 := fun zz_ => c_86 ((nI_eq (a := tk D way least win e p) (b := 0) (by omega) (by omega)).mpr zz_)
          obtain ⟨hls, hlp⟩ := tk_ls (by omega) n_86
          obtain rfl := hdd n_86
          refine WX.s1 rfl rfl ?_
          refine WX.s1 rfl rfl ?_
          refine WX.s1 rfl rfl ?_
          refine WX.s1 (S' := [.int ((nI p) - (nI (p - si))), .ref 81]) rfl rfl ?_
          rw [show nI p - nI (p - si) = nI si from (nI_subN (by omega)).trans (congrArg nI (by omega))]
          refine WX.callC (vs := [.ref 81, .int (nI si)]) rfl rfl rfl (Nat.le_of_ble_eq_true rfl) (rcv_ok (ltN hn (by decide)) F_h76_81) ?_
          have hq1 : (seqV1 qs).length = qs.length := by simp [seqV1]
          have hq3 : (seqV3 qs).length = qs.length := by simp [seqV3]
          have hq2 := numF_len lt qs
          refine x_addSeq hn hnb (S1.zfr FR_h76 (by decide) (by decide)) (S2.zfr FR_h76 (by decide) (by decide)) (S3.zfr FR_h76 (by decide) (by decide)) (by omega) (by omega) (by omega) (by omega) hlo (by omega) (by omega) (by omega) F_h76_81 F_h76_82 F_h76_108 F_h76_135 F_h76_162 P_h76_k1 P_h76_k2 P_h76_k3 P_h76_la (fun h9 fr9 F_h9_81 F_h9_108 P_h9_k1 F_h9_135 P_h9_k2 F_h9_162 P_h9_k3 A9 => ?_)
          have eN : numF lt (qs ++ [(si, (tk D way least win e p), (p - (mAt D (wy way) least win e p).2))]) = ((numF lt qs).1 ++ [(tnum (numF lt qs).2 (p - (mAt D (wy way) least win e p).2) (if si = 0 then 1 else 0)).1], (tnum (numF lt qs).2 (p - (mAt D (wy way) least win e p).2) (if si = 0 then 1 else 0)).2) := numF_snoc lt qs (si, (tk D way least win e p), (p - (mAt D (wy way) least win e p).2))
          have e1 : seqV1 (qs ++ [(si, (tk D way least win e p), (p - (mAt D (wy way) least win e p).2))]) = seqV1 qs ++ [si] := seqV1_snoc qs (si, (tk D way least win e p), (p - (mAt D (wy way) least win e p).2))
          have e3 : seqV3 (qs ++ [(si, (tk D way least win e p), (p - (mAt D (wy way) least win e p).2))]) = seqV3 qs ++ [(tk D way least win e p)] := seqV3_snoc qs (si, (tk D way least win e p), (p - (mAt D (wy way) least win e p).2))
          have e0 : (qs ++ [(si, (tk D way least win e p), (p - (mAt D (wy way) least win e p).2))]).length = qs.length + 1 := by rw [List.length_append]; rfl
          have e2 : (numF lt (qs ++ [(si, (tk D way least win e p), (p - (mAt D (wy way) least win e p).2))])).1 = (numF lt qs).1 ++ [(tnum (numF lt qs).2 (p - (mAt D (wy way) least win e p).2) (if si = 0 then 1 else 0)).1] := by rw [eN]
          have hlo2 : LatOk (numF lt (qs ++ [(si, (tk D way least win e p), (p - (mAt D (wy way) least win e p).2))])).2 := by rw [eN]; exact (tnum_ok hlo (by omega) (by omega)).1
          rw [← e1] at F_h9_108 P_h9_k1
          rw [← e2] at F_h9_135 P_h9_k2
          rw [← e3] at F_h9_162 P_h9_k3
          rw [← e0] at F_h9_81
          have P_h9_la : LatA h9 87 (numF lt (qs ++ [(si, (tk D way least win e p), (p - (mAt D (wy way) least win e p).2))])).2 := by rw [eN]; exact A9
          have F_h9_82 : h9 82 = .inr (3, [.ref 83, .int (nI U), .ref 84, .ref 85, .int (nI way), .int (nI least), .int (nI win), .int (nI e), .int (nI (tk D way least win e p)), .int (nI (p - (mAt D (wy way) least win e p).2)), .int ap, .int al, .int ad]) := (fr9 _ (by first | decide | omega)).trans F_h76_82
          have F_h9_83 : h9 83 = .inl (0, 16000, .inl dA) := (fr9 _ (by first | decide | omega)).trans F_h76_83
          have F_h9_84 : h9 84 = .inl (1, 16000, .inl eA) := (fr9 _ (by first | decide | omega)).trans F_h76_84
          have F_h9_89 : h9 89 = .inr (5, [.ref 90, .ref 91, .int (nI ls.length), .ref 92, .ref 96, .ref 100, .ref 67, .ref 106, .int lki, .int lb, .int lsh, .int lbe]) := (fr9 _ (by first | decide | omega)).trans F_h76_89
          have P_h9_li : LitA h9 ls := P_h76_li.zfr fr9 (by decide) (by decide)
          have FR_h9 : Fr _ h9 (fun j => j = 81 ∨ j = 82 ∨ j = 87 ∨ (89 ≤ j ∧ j ≤ 91) ∨ (108 ≤ j ∧ j ≤ 110) ∨ j = 113 ∨ (135 ≤ j ∧ j ≤ 137) ∨ j = 140 ∨ (162 ≤ j ∧ j ≤ 164) ∨ j = 167) := FR_h76.zsub fr9 (fun j hj => by omega)
          show WX _ _ _ 116 [(0, .ref 81), (1, .int (nI f)), (2, .int (nI e)), (3, .int (nI (p - si))), (4, .int (nI p))] [] (n, s, h9)
          refine WX.s1 rfl rfl ?_
          refine WX.s1 rfl rfl ?_
          refine WX.get1 (fs := [.ref 82, .ref 89, .ref 108, .ref 135, .ref 162, .ref 86, .ref 87, .int (nI (qs ++ [(si, (tk D way least win e p), (p - (mAt D (wy way) least win e p).2))]).length), .ref 88]) rfl (ltN hn (by decide)) (F_h9_81) rfl ?_
          refine WX.get1 (fs := [.ref 83, .int (nI U), .ref 84, .ref 85, .int (nI way), .int (nI least), .int (nI win), .int (nI e), .int (nI (tk D way least win e p)), .int (nI (p - (mAt D (wy way) least win e p).2)), .int ap, .int al, .int ad]) rfl (ltN hn (by decide)) (F_h9_82) rfl ?_
          refine WX.s1 (S' := [.int ((nI p) + (nI (tk D way least win e p)))]) rfl rfl ?_
          rw [show ((nI p) + (nI (tk D way least win e p))) = nI (p + tk D way least win e p) from nI_add p (tk D way least win e p)]
          refine WX.s1 (L' := [(0, .ref 81), (1, .int (nI f)), (2, .int (nI e)), (3, .int (nI (p + tk D way least win e p))), (4, .int (nI p))]) rfl rfl ?_
          refine WX.s1 rfl rfl ?_
          refine WX.s1 rfl rfl ?_
          refine WX.get1 (fs := [.ref 82, .ref 89, .ref 108, .ref 135, .ref 162, .ref 86, .ref 87, .int (nI (qs ++ [(si, (tk D way least win e p), (p - (mAt D (wy way) least win e p).2))]).length), .ref 88]) rfl (ltN hn (by decide)) (F_h9_81) rfl ?_
          refine WX.get1 (fs := [.ref 83, .int (nI U), .ref 84, .ref 85, .int (nI way), .int (nI least), .int (nI win), .int (nI e), .int (nI (tk D way least win e p)), .int (nI (p - (mAt D (wy way) least win e p).2)), .int ap, .int al, .int ad]) rfl (ltN hn (by decide)) (F_h9_82) rfl ?_
          refine WX.s1 rfl rfl ?_
          refine WX.s1 (S' := [.int (if (nI (tk D way least win e p)) < 1 then 1 else (nI (tk D way least win e p))), .int (nI p)]) rfl rfl ?_
          rw [if_neg (show ¬ nI (tk D way least win e p) < 1 from nI_nlt (b := 1) (by omega) (by omega))]
          refine WX.s1 (S' := [.int ((nI p) + (nI (tk D way least win e p)))]) rfl rfl ?_
          rw [show ((nI p) + (nI (tk D way least win e p))) = nI (p + tk D way least win e p) from nI_add p (tk D way least win e p)]
          refine WX.s1 (L' := [(0, .ref 81), (1, .int (nI f)), (2, .int (nI e)), (3, .int (nI (p + tk D way least win e p))), (4, .int (nI (p + tk D way least win e p)))]) rfl rfl ?_
          refine WX.s1 rfl rfl ?_
          have hG2 : goN D way least win e f (k + 1) = (p + (tk D way least win e p), 0, ls, (qs ++ [(si, (tk D way least win e p), (p - (mAt D (wy way) least win e p).2))])) := by
            show gStep D way least win e (goN D way least win e f k) = _
            rw [hG]
            unfold gStep
            rw [if_pos (show p < e by omega), if_neg n_86]
          refine ih (k + 1) (p + (tk D way least win e p)) 0 ls (qs ++ [(si, (tk D way least win e p), (p - (mAt D (wy way) least win e p).2))]) h9 _ _ _ _ _ (by omega) hG2 hAh2 hlo2 FR_h9 F_h9_81 F_h9_82 F_h9_89 F_h9_108 F_h9_135 F_h9_162 P_h9_li P_h9_k1 P_h9_k2 P_h9_k3 P_h9_la
        · skip
          have n_86 : (tk D way least win e p) = 0 := (nI_eq (a := tk D way least win e p) (b := 0) (by omega) (by omega)).mp (Classical.not_not.mp c_86)
          refine WX.s1 rfl rfl ?_
          refine WX.get1 (fs := [.ref 82, .ref 89, .ref 108, .ref 135, .ref 162, .ref 86, .ref 87, .int (nI qs.length), .ref 88]) rfl (ltN hn (by decide)) (F_h76_81) rfl ?_
          refine WX.s1 rfl rfl ?_
          refine WX.get1 (fs := [.ref 82, .ref 89, .ref 108, .ref 135, .ref 162, .ref 86, .ref 87, .int (nI qs.length), .ref 88]) rfl (ltN hn (by decide)) (F_h76_81) rfl ?_
          refine WX.s1 rfl rfl ?_
          refine WX.callC (vs := [.ref 82, .int (nI p)]) rfl rfl rfl (Nat.le_of_ble_eq_true rfl) (rcv_ok (ltN hn (by decide)) F_h76_82) ?_
          refine x_fat hn hD hU (by omega) F_h76_82 F_h76_83 ?_
          show WX _ _ _ 102 [(0, .ref 81), (1, .int (nI f)), (2, .int (nI e)), (3, .int (nI (p - si))), (4, .int (nI p))] [.int (nI (D p)), .ref 89] (n, s, h76)
          refine WX.callC (vs := [.ref 89, .int (nI (D p))]) rfl rfl rfl (Nat.le_of_ble_eq_true rfl) (rcv_ok (ltN hn (by decide)) F_h76_89) ?_
          refine x_ladd hn (hD p (by omega)).1 (by omega) P_h76_li F_h76_89 (fun h102 fr F_h102_89 P_h102_li => ?_)
          have F_h102_81 : h102 81 = .inr (6, [.ref 82, .ref 89, .ref 108, .ref 135, .ref 162, .ref 86, .ref 87, .int (nI qs.length), .ref 88]) := (fr _ (by first | decide | omega)).trans F_h76_81
          have F_h102_82 : h102 82 = .inr (3, [.ref 83, .int (nI U), .ref 84, .ref 85, .int (nI way), .int (nI least), .int (nI win), .int (nI e), .int (nI (tk D way least win e p)), .int dd, .int ap, .int al, .int ad]) := (fr _ (by first | decide | omega)).trans F_h76_82
          have F_h102_108 : h102 108 = .inr (1, [.ref (aBig + 3), .ref (aBig + 4), .int gr1, .ref 109, .ref 110, .ref 113, .int (nI (seqV1 qs).length), .int (nI (colF sy1 wd1 (seqV1 qs)).2.1), .int (nI (colF sy1 wd1 (seqV1 qs)).2.2), .ref 114, .ref 121, .ref 128, .ref cho1, .ref 111, .int mo1, .int bi1, .int ob1, .int sta1]) := (fr _ (by first | decide | omega)).trans F_h76_108
          have F_h102_135 : h102 135 = .inr (1, [.ref (aBig + 5), .ref (aBig + 6), .int gr2, .ref 136, .ref 137, .ref 140, .int (nI ((numF lt qs).1).length), .int (nI (colF sy2 wd2 ((numF lt qs).1)).2.1), .int (nI (colF sy2 wd2 ((numF lt qs).1)).2.2), .ref 141, .ref 148, .ref 155, .ref cho2, .ref 138, .int mo2, .int bi2, .int ob2, .int sta2]) := (fr _ (by first | decide | omega)).trans F_h76_135
          have F_h102_162 : h102 162 = .inr (1, [.ref (aBig + 7), .ref (aBig + 8), .int gr3, .ref 163, .ref 164, .ref 167, .int (nI (seqV3 qs).length), .int (nI (colF sy3 wd3 (seqV3 qs)).2.1), .int (nI (colF sy3 wd3 (seqV3 qs)).2.2), .ref 168, .ref 175, .ref 182, .ref cho3, .ref 165, .int mo3, .int bi3, .int ob3, .int sta3]) := (fr _ (by first | decide | omega)).trans F_h76_162
          have F_h102_83 : h102 83 = .inl (0, 16000, .inl dA) := (fr _ (by first | decide | omega)).trans F_h76_83
          have F_h102_84 : h102 84 = .inl (1, 16000, .inl eA) := (fr _ (by first | decide | omega)).trans F_h76_84
          have P_h102_k1 : ColA h102 108 35 sy1 wd1 (seqV1 qs) := P_h76_k1.zfr fr (by first | decide | omega) (by first | decide | omega) (by first | decide | omega)
          have P_h102_k2 : ColA h102 135 31 sy2 wd2 ((numF lt qs).1) := P_h76_k2.zfr fr (by first | decide | omega) (by first | decide | omega) (by first | decide | omega)
          have P_h102_k3 : ColA h102 162 52 sy3 wd3 (seqV3 qs) := P_h76_k3.zfr fr (by first | decide | omega) (by first | decide | omega) (by first | decide | omega)
          have P_h102_la : LatA h102 87 ((numF lt qs).2) := P_h76_la.zfr fr (by first | decide | omega)
          have FR_h102 : Fr h h102 (fun j => j = 81 ∨ j = 82 ∨ j = 87 ∨ (89 ≤ j ∧ j ≤ 91) ∨ (108 ≤ j ∧ j ≤ 110) ∨ j = 113 ∨ (135 ≤ j ∧ j ≤ 137) ∨ j = 140 ∨ (162 ≤ j ∧ j ≤ 164) ∨ j = 167) := FR_h76.zsub fr (fun j hj => by omega)
          show WX _ _ _ 105 [(0, .ref 81), (1, .int (nI f)), (2, .int (nI e)), (3, .int (nI (p - si))), (4, .int (nI p))] [] (n, s, h102)
          refine WX.s1 rfl rfl ?_
          refine WX.s1 rfl rfl ?_
          refine WX.s1 rfl rfl ?_
          refine WX.get1 (fs := [.ref 82, .ref 89, .ref 108, .ref 135, .ref 162, .ref 86, .ref 87, .int (nI qs.length), .ref 88]) rfl (ltN hn (by decide)) (F_h102_81) rfl ?_
          refine WX.get1 (fs := [.ref 83, .int (nI U), .ref 84, .ref 85, .int (nI way), .int (nI least), .int (nI win), .int (nI e), .int (nI (tk D way least win e p)), .int dd, .int ap, .int al, .int ad]) rfl (ltN hn (by decide)) (F_h102_82) rfl ?_
          refine WX.s1 rfl rfl ?_
          refine WX.s1 (S' := [.int (if (nI (tk D way least win e p)) < 1 then 1 else (nI (tk D way least win e p))), .int (nI p)]) rfl rfl ?_
          rw [if_pos (show nI (tk D way least win e p) < 1 by rw [n_86]; decide)]
          refine WX.s1 (S' := [.int ((nI p) + 1)]) rfl rfl ?_
          rw [show ((nI p) + 1) = nI (p + 1) from nI_add p 1]
          refine WX.s1 (L' := [(0, .ref 81), (1, .int (nI f)), (2, .int (nI e)), (3, .int (nI (p - si))), (4, .int (nI (p + 1)))]) rfl rfl ?_
          refine WX.s1 rfl rfl ?_
          have hG2 : goN D way least win e f (k + 1) = (p + 1, si + 1, ls ++ [D p], qs) := by
            show gStep D way least win e (goN D way least win e f k) = _
            rw [hG]
            unfold gStep
            rw [if_pos (show p < e by omega), if_pos n_86]
          have hL2 := ih (k + 1) (p + 1) (si + 1) (ls ++ [D p]) qs h102 _ _ _ _ _ (by omega) hG2 hAh2 hlo FR_h102 F_h102_81 F_h102_82 F_h102_89 F_h102_108 F_h102_135 F_h102_162 P_h102_li P_h102_k1 P_h102_k2 P_h102_k3 P_h102_la
          rw [show p + 1 - (si + 1) = p - si by omega] at hL2
          exact hL2
  have hLi : LitA h56 [] := ⟨a90, g4, F_h56_90, F_h56_91, fun i hi => absurd hi (Nat.not_lt_zero i), fun s hs => z4 s hs⟩
  have hK1 : ColA h56 108 35 sy1 wd1 [] := ⟨y1, v1, g11, F_h56_109, F_h56_110, F_h56_113, fun i hi => absurd hi (Nat.not_lt_zero i), fun s hs => z11 s (by omega)⟩
  have hK2 : ColA h56 135 31 sy2 wd2 [] := ⟨y2, v2, g18, F_h56_136, F_h56_137, F_h56_140, fun i hi => absurd hi (Nat.not_lt_zero i), fun s hs => z18 s (by omega)⟩
  have hK3 : ColA h56 162 52 sy3 wd3 [] := ⟨y3, v3, g25, F_h56_163, F_h56_164, F_h56_167, fun i hi => absurd hi (Nat.not_lt_zero i), fun s hs => z25 s (by omega)⟩
  have hLa : LatA h56 87 lt := by
    refine ⟨g48, F_h56_87, ?_, ?_, ?_⟩
    · rw [e_g48]; exact l60
    · rw [e_g48]; exact l61
    · rw [e_g48]; exact l62
  have hL2 := lp (e - f) 0 f 0 [] [] h56 _ _ _ _ _ (Nat.le_refl _) rfl (Or.inl rfl) hlt FR_h56 F_h56_81 F_h56_82 F_h56_89 F_h56_108 F_h56_135 F_h56_162 hLi hK1 hK2 hK3 hLa
  exact hL2
