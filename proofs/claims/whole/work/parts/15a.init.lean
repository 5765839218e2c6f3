/-- how many values the cell c has -/
def szOf (c : Nat) : Nat := match SH[c]? with
  | some s => s.2.1
  | none => 0
theorem hinit_INV (sv : St) (h : ∀ (c : Nat) (s : xSh), SH[c]? = some s → ∀ j, j < s.2.1 → sv.1 c j = expI c j ∧ sv.2 c j = expJ c j) : INV sv := by
  have hv : ∀ c j, j < szOf c → sv.1 c j = expI c j ∧ sv.2 c j = expJ c j := by
    intro c j hj
    unfold szOf at hj
    cases hs : SH[c]? with
    | none => rw [hs] at hj; exact absurd hj (Nat.not_lt_zero _)
    | some s => rw [hs] at hj; exact h c s hs j hj
  have z3 : szOf 3 = 24 := by decide +kernel
  have z8 : szOf 8 = 60 := by decide +kernel
  have z9 : szOf 9 = 60 := by decide +kernel
  have z10 : szOf 10 = 60 := by decide +kernel
  have z101 : szOf 101 = 60 := by decide +kernel
  have z103 : szOf 103 = 1440 := by decide +kernel
  have z5 : szOf 5 = 21 := by decide +kernel
  have z95 : szOf 95 = 21 := by decide +kernel
  have z115 : szOf 115 = 4 := by decide +kernel
  have z113 : szOf 113 = 2 := by decide +kernel
  have zo : ∀ p, p < 4 → szOf (15 + 2 * p) = 3 := by decide +kernel
  have z26 : szOf 26 = 3 := by decide +kernel
  have z28 : szOf 28 = 3 := by decide +kernel
  have z94 : 36 < szOf 94 := by decide +kernel
  have e94 : ∀ j, j ≠ 1 → j ≤ 36 → sv.1 94 j = 0 := by
    intro j x y
    rw [(hv 94 j (by omega)).1]
    simp [expI, x]
  have e0 : ∀ c j, j < szOf c → c ≠ 1 → c ≠ 2 → c ≠ 3 → c ≠ 94 → c ≠ 96 → c ≠ 97 → c ≠ 98 → sv.1 c j = 0 := by
    intro c j hj a1 a2 a3 a4 a5 a6 a7
    rw [(hv c j hj).1]
    simp [expI, a1, a2, a3, a4, a5, a6, a7]
  have hl : ∀ o nT (f : Nat → Int32) z, z = 0 → sv.1 o 1 = 0 → sv.1 o 2 = 0 → LSt sv o nT f z := by
    intro o nT f z hz h1 h2
    refine ⟨0, by omega, h1, hz, fun k hk => by omega, fun j k hj => by omega, fun t ht => ?_⟩
    rw [h2, b_0]
    constructor
    · intro q; cases q
    · rintro ⟨k, hk, -⟩; omega
  refine ⟨1, 0, 0, 0, ⟨by omega, by omega, ?_, ?_, fun t ht => ?_, ?_, ?_, fun t a b => ?_⟩, ⟨by omega, ?_, ?_, fun w hw => by omega, fun w a b => ?_, fun w t a b => ?_, fun w t a b => ?_⟩, fun j hj => ?_, ⟨by omega, ?_, ?_, fun i hi => by omega⟩, fun p hp => ?_, ⟨by omega, ?_, ?_, ?_, fun i hi => by omega, ?_, ?_, ?_, ⟨0, by omega, ?_⟩, ?_, ?_⟩, ?_⟩
  · exact (hv 1 3 (by decide +kernel)).1
  · exact (hv 94 1 (by omega)).1
  · have : t = 0 := by omega
    subst this
    rw [(hv 2 0 (by decide +kernel)).1, (hv 96 0 (by decide +kernel)).1, (hv 3 0 (by omega)).1, (hv 98 0 (by decide +kernel)).1, (hv 97 0 (by decide +kernel)).1, (hv 1 2 (by decide +kernel)).1]
    exact ⟨rfl, ⟨1, by omega, rfl⟩, rfl, Or.inl rfl, by decide⟩
  · exact (hv 96 0 (by decide +kernel)).1
  · rw [(hv 1 2 (by decide +kernel)).1]; decide
  · rw [(hv 3 t (by omega)).1]; simp [expI]
  · exact e0 4 7 (by decide +kernel) (by omega) (by omega) (by omega) (by omega) (by omega) (by omega) (by omega)
  · exact e94 5 (by omega) (by omega)
  · exact ⟨e0 8 w (by omega) (by omega) (by omega) (by omega) (by omega) (by omega) (by omega) (by omega), e0 101 w (by omega) (by omega) (by omega) (by omega) (by omega) (by omega) (by omega) (by omega), e0 9 w (by omega) (by omega) (by omega) (by omega) (by omega) (by omega) (by omega) (by omega), e0 10 w (by omega) (by omega) (by omega) (by omega) (by omega) (by omega) (by omega) (by omega)⟩
  · rw [e0 103 (24 * w + t) (by omega) (by omega) (by omega) (by omega) (by omega) (by omega) (by omega) (by omega), e0 9 w (by omega) (by omega) (by omega) (by omega) (by omega) (by omega) (by omega) (by omega), e0 10 w (by omega) (by omega) (by omega) (by omega) (by omega) (by omega) (by omega) (by omega), b_0]
    rfl
  · rw [e0 9 w (by omega) (by omega) (by omega) (by omega) (by omega) (by omega) (by omega) (by omega), e0 10 w (by omega) (by omega) (by omega) (by omega) (by omega) (by omega) (by omega) (by omega), b_0]
    exact ⟨rfl, rfl⟩
  · rw [(hv 5 j (by omega)).2, (hv 95 j (by omega)).2]
    simp [expJ]
  · exact e0 12 1 (by decide +kernel) (by omega) (by omega) (by omega) (by omega) (by omega) (by omega) (by omega)
  · exact e94 12 (by omega) (by omega)
  · have := zo p hp
    exact hl _ _ _ _ (e0 115 p (by omega) (by omega) (by omega) (by omega) (by omega) (by omega) (by omega) (by omega)) (e0 _ 1 (by omega) (by omega) (by omega) (by omega) (by omega) (by omega) (by omega) (by omega)) (e0 _ 2 (by omega) (by omega) (by omega) (by omega) (by omega) (by omega) (by omega) (by omega))
  · exact e0 23 2 (by decide +kernel) (by omega) (by omega) (by omega) (by omega) (by omega) (by omega) (by omega)
  · exact e94 24 (by omega) (by omega)
  · rw [e94 25 (by omega) (by omega)]
    exact e0 23 3 (by decide +kernel) (by omega) (by omega) (by omega) (by omega) (by omega) (by omega) (by omega)
  · rw [e94 26 (by omega) (by omega)]
    exact e0 25 2 (by decide +kernel) (by omega) (by omega) (by omega) (by omega) (by omega) (by omega) (by omega)
  · rw [e94 27 (by omega) (by omega)]
    exact e0 25 3 (by decide +kernel) (by omega) (by omega) (by omega) (by omega) (by omega) (by omega) (by omega)
  · rw [e94 28 (by omega) (by omega)]
    exact e0 25 4 (by decide +kernel) (by omega) (by omega) (by omega) (by omega) (by omega) (by omega) (by omega)
  · exact e94 26 (by omega) (by omega)
  · exact hl _ _ _ _ (e0 113 0 (by omega) (by omega) (by omega) (by omega) (by omega) (by omega) (by omega) (by omega)) (e0 26 1 (by omega) (by omega) (by omega) (by omega) (by omega) (by omega) (by omega) (by omega)) (e0 26 2 (by omega) (by omega) (by omega) (by omega) (by omega) (by omega) (by omega) (by omega))
  · exact hl _ _ _ _ (e0 113 1 (by omega) (by omega) (by omega) (by omega) (by omega) (by omega) (by omega) (by omega)) (e0 28 1 (by omega) (by omega) (by omega) (by omega) (by omega) (by omega) (by omega) (by omega)) (e0 28 2 (by omega) (by omega) (by omega) (by omega) (by omega) (by omega) (by omega) (by omega))
  · rw [e94 17 (by omega) (by omega)]
    exact e0 80 9 (by decide +kernel) (by omega) (by omega) (by omega) (by omega) (by omega) (by omega) (by omega)
theorem op_all : OpAll INV := ⟨op_thing, op_see, op_own, op_turn, op_feed, op_word, op_name, op_form, op_same, op_line, op_fault, op_order, op_given, op_table, op_count⟩
