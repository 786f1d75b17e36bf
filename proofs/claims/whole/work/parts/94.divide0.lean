/-! the reference: divide -/
/-- the one that the reference picks: among those that got none in this round -/
def rpick (p : Option Nat) (hd : Nat → Nat) : Option Nat := match p with
  | none => none
  | some b => if hd b = 0 then some b else none
def HadR (u : Nat → Nat) (r : Nat → Int) (ct hd : Nat → Nat) (t ρ : Nat) : Prop := ∀ s, s < 64 → ct s < t ∧ hd s ≤ 1 ∧ (2 ≤ u s → r s = (ct s : Int) - t * (ρ + hd s : Nat))
theorem pick_range {u : Nat → Nat} {r : Nat → Int} {i b : Nat} (h : pickO u r i = some b) (hi : i ≤ 64) : b < 64 := by
  have := (pick_lt h).1
  omega
theorem rpick_step {u : Nat → Nat} {r : Nat → Int} {ct hd : Nat → Nat} {t ρ i : Nat} (H : HadR u r ct hd t ρ) (hi : i < 64) : rpick (pickO u r (i + 1)) hd = (if 2 ≤ u i ∧ hd i = 0 then (match rpick (pickO u r i) hd with | none => some i | some b => if ct b < ct i then some i else some b) else rpick (pickO u r i) hd) := by
  have hs : pickO u r (i + 1) = (match pickO u r i with | none => if 2 ≤ u i then some i else none | some b => if 2 ≤ u i ∧ r b < r i then some i else some b) := rfl
  obtain ⟨c1, c2, c3⟩ := H i hi
  cases hp : pickO u r i with
  | none =>
    rw [hp] at hs
    dsimp only at hs
    rw [hs]
    by_cases q : 2 ≤ u i
    · rw [if_pos q]
      by_cases z : hd i = 0
      · rw [if_pos ⟨q, z⟩]
        show (if hd i = 0 then some i else none) = some i
        rw [if_pos z]
      · rw [if_neg (fun y => z y.2)]
        show (if hd i = 0 then some i else none) = none
        rw [if_neg z]
    · rw [if_neg q, if_neg (fun y => q y.1)]
  | some b =>
    rw [hp] at hs
    dsimp only at hs
    rw [hs]
    obtain ⟨hb1, hb2⟩ := pick_lt hp
    obtain ⟨d1, d2, d3⟩ := H b (by omega)
    have d3 := d3 hb2
    by_cases q : 2 ≤ u i
    · have c3 := c3 q
      have k0 : ((t * (ρ + 0) : Nat) : Int) = t * ρ := by rw [Nat.add_zero]; exact Int.natCast_mul t ρ
      have k1 : ((t * (ρ + 1) : Nat) : Int) = t * ρ + t := by rw [Nat.mul_add, Nat.mul_one]; exact (Int.natCast_add _ _).trans (by rw [Int.natCast_mul])
      by_cases zi : hd i = 0
      · rw [if_pos (show 2 ≤ u i ∧ hd i = 0 from ⟨q, zi⟩)]
        by_cases zb : hd b = 0
        · have e1 : r b < r i ↔ ct b < ct i := by rw [c3, d3, zi, zb]; omega
          show rpick (if 2 ≤ u i ∧ r b < r i then some i else some b) hd = (match (if hd b = 0 then some b else none) with | none => some i | some b => if ct b < ct i then some i else some b)
          rw [if_pos zb]
          dsimp only
          by_cases y : ct b < ct i
          · rw [if_pos ⟨q, e1.mpr y⟩, if_pos y]
            show (if hd i = 0 then some i else none) = some i
            rw [if_pos zi]
          · rw [if_neg (fun x => y (e1.mp x.2)), if_neg y]
            show (if hd b = 0 then some b else none) = some b
            rw [if_pos zb]
        · have zb1 : hd b = 1 := by omega
          have e1 : r b < r i := by
            rw [c3, d3, zi, zb1]
            have : (t : Int) * ((ρ + 1 : Nat) : Int) = t * ρ + t := by rw [Int.natCast_add, Int.mul_add]; simp
            have : (t : Int) * ((ρ + 0 : Nat) : Int) = t * ρ := by rw [Nat.add_zero]
            omega
          show rpick (if 2 ≤ u i ∧ r b < r i then some i else some b) hd = (match (if hd b = 0 then some b else none) with | none => some i | some b => if ct b < ct i then some i else some b)
          rw [if_neg zb, if_pos ⟨q, e1⟩]
          show (if hd i = 0 then some i else none) = some i
          rw [if_pos zi]
      · rw [if_neg (show ¬ (2 ≤ u i ∧ hd i = 0) from fun y => zi y.2)]
        have zi1 : hd i = 1 := by omega
        show rpick (if 2 ≤ u i ∧ r b < r i then some i else some b) hd = (if hd b = 0 then some b else none)
        by_cases zb : hd b = 0
        · have e1 : ¬ r b < r i := by
            rw [c3, d3, zi1, zb]
            have : (t : Int) * ((ρ + 1 : Nat) : Int) = t * ρ + t := by rw [Int.natCast_add, Int.mul_add]; simp
            have : (t : Int) * ((ρ + 0 : Nat) : Int) = t * ρ := by rw [Nat.add_zero]
            omega
          rw [if_neg (fun x => e1 x.2)]
          rfl
        · rw [if_neg zb]
          by_cases y : 2 ≤ u i ∧ r b < r i
          · rw [if_pos y]
            show (if hd i = 0 then some i else none) = none
            rw [if_neg zi]
          · rw [if_neg y]
            show (if hd b = 0 then some b else none) = none
            rw [if_neg zb]
    · rw [if_neg (fun y => q y.1), if_neg (fun y => q y.1)]
theorem rpick_all {u : Nat → Nat} {r : Nat → Int} {hd : Nat → Nat} : ∀ {N : Nat}, (∀ s, s < N → hd s = 0) → rpick (pickO u r N) hd = pickO u r N := by
  intro N h
  cases hp : pickO u r N with
  | none => rfl
  | some b =>
    show (if hd b = 0 then some b else none) = some b
    rw [if_pos (h b (pick_lt hp).1)]
theorem rpick_none {u : Nat → Nat} {r : Nat → Int} {ct hd : Nat → Nat} {t ρ : Nat} (H : HadR u r ct hd t ρ) : ∀ {N : Nat}, N ≤ 64 → rpick (pickO u r N) hd = none → ∀ s, s < N → 2 ≤ u s → hd s = 1 := by
  intro N
  induction N with
  | zero => intro _ _ s hs; omega
  | succ N ih =>
    intro hN hz s hs h2
    rw [rpick_step H (by omega)] at hz
    by_cases q : 2 ≤ u N ∧ hd N = 0
    · rw [if_pos q] at hz
      exfalso
      cases hr : rpick (pickO u r N) hd with
      | none => rw [hr] at hz; cases hz
      | some b =>
        rw [hr] at hz
        dsimp only at hz
        by_cases y : ct b < ct N
        · rw [if_pos y] at hz; cases hz
        · rw [if_neg y] at hz; cases hz
    · rw [if_neg q] at hz
      by_cases y : s = N
      · subst y
        have := (H s (by omega)).2.1
        rcases Nat.eq_zero_or_pos (hd s) with e | e
        · exact absurd ⟨h2, e⟩ q
        · omega
      · exact ih (by omega) hz s (by omega) h2
theorem HadR.give {u : Nat → Nat} {r : Nat → Int} {ct hd : Nat → Nat} {t ρ b : Nat} (H : HadR u r ct hd t ρ) (hb : b < 64) (h2 : 2 ≤ u b) (h0 : hd b = 0) : HadR (updN u b (u b + 1)) (updZ r b (r b - t)) ct (updN hd b 1) t ρ := by
  intro s hs
  obtain ⟨c1, c2, c3⟩ := H s hs
  by_cases q : s = b
  · subst q
    refine ⟨c1, by rw [updN_s]; exact Nat.le_refl _, fun _ => ?_⟩
    rw [updZ_s, updN_s, c3 h2, h0]
    have : (t : Int) * ((ρ + 1 : Nat) : Int) = t * ρ + t := by rw [Int.natCast_add, Int.mul_add]; simp
    have : (t : Int) * ((ρ + 0 : Nat) : Int) = t * ρ := by rw [Nat.add_zero]
    omega
  · rw [updN_n q, updN_n q, updZ_n q]
    exact ⟨c1, c2, c3⟩
theorem HadR.next {u : Nat → Nat} {r : Nat → Int} {ct hd : Nat → Nat} {t ρ : Nat} (H : HadR u r ct hd t ρ) (h1 : ∀ s, s < 64 → 2 ≤ u s → hd s = 1) : HadR u r ct (fun _ => 0) t (ρ + 1) := by
  intro s hs
  obtain ⟨c1, c2, c3⟩ := H s hs
  refine ⟨c1, Nat.zero_le _, fun h => ?_⟩
  rw [c3 h, h1 s hs h]
  rfl
