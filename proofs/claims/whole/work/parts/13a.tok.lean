/-! the words and signs of a line -/
/-- what is known of the told words: their letters, their number, root and sort -/
abbrev Wd : Type := (Nat → List Nat) × Nat × (Nat → Nat) × (Nat → Nat)
def tokOf (W : Wd) (l : List Nat) : Option (Nat × Nat) := if scan (pf l) 21 0 = -4 then (if scan (pw W.1 l) W.2.1 0 = -4 then some (26, 0) else if W.2.2.2 (W.2.2.1 (scan (pw W.1 l) W.2.1 0).toNatClampNeg) = 3 then none else some (23 + W.2.2.2 (W.2.2.1 (scan (pw W.1 l) W.2.1 0).toNatClampNeg), W.2.2.1 (scan (pw W.1 l) W.2.1 0).toNatClampNeg)) else some ((scan (pf l) 21 0).toNatClampNeg, 0)
abbrev Tok : Type := Nat × Nat × Nat
def tokAt (W : Wd) (bc : Nat → Nat) (n i : Nat) : Option Tok :=
  if lt (bc i) ≠ 0 then (if 0 < i ∧ lt (bc (i - 1)) ≠ 0 then none else (tokOf W (rowL bc n 8 i)).map fun t => (t.1, t.2, i))
  else if bc i = 44 then some (21, 0, i) else if bc i = 46 then some (22, 0, i) else none
def TkL (W : Wd) (bc : Nat → Nat) (n i : Nat) : List Tok := (List.range i).filterMap (tokAt W bc n)
/-- a byte that may stand in a line -/
def okB (c : Nat) : Prop := lt c ≠ 0 ∨ c = 44 ∨ c = 46 ∨ c = 32
theorem TkL_s (W : Wd) (bc : Nat → Nat) (n i : Nat) : TkL W bc n (i + 1) = TkL W bc n i ++ (tokAt W bc n i).toList := by
  unfold TkL
  rw [List.range_succ, List.filterMap_append]
  congr 1
theorem TkL_len (W : Wd) (bc : Nat → Nat) (n i : Nat) : (TkL W bc n i).length ≤ i := by
  have := List.length_filterMap_le (tokAt W bc n) (List.range i)
  rw [List.length_range] at this
  exact this
theorem TkL_skip (W : Wd) (bc : Nat → Nat) (n : Nat) : ∀ d i, (∀ j, i ≤ j → j < i + d → tokAt W bc n j = none) → TkL W bc n (i + d) = TkL W bc n i
  | 0, i, _ => rfl
  | d + 1, i, h => by
    rw [← Nat.add_assoc, TkL_s, h (i + d) (by omega) (by omega), TkL_skip W bc n d i (fun j x y => h j x (by omega))]
    simp
/-- the told words, as the cells hold them -/
def WK (s : St) (W : Wd) : Prop := W.2.1 ≤ 60 ∧ s.1 4 7 = nI W.2.1 ∧ s.1 94 5 = nI W.2.1 ∧ IX s ∧ (∀ w, w < W.2.1 → isW (W.1 w) ∧ ¬ W.1 w ∈ fixW ∧ s.2 6 w = lN (k27 (W.1 w)) ∧ s.2 99 w = lN (k256 (W.1 w))) ∧
  (∀ w, w < W.2.1 → W.2.2.1 w < W.2.1 ∧ s.1 11 w = nI (W.2.2.1 w) ∧ ((s.1 102 w = -4 ∧ W.2.2.1 w = w) ∨ (s.1 102 w = nI (W.2.2.1 w)))) ∧ (∀ w, w < W.2.1 → W.2.2.2 w < 4 ∧ s.1 7 w = nI (W.2.2.2 w) ∧ s.1 100 w = nI (W.2.2.2 w))
theorem WK_congr {s s' : St} {W : Wd} (h : WK s W) (e2 : s'.2 = s.2) (e : ∀ c, (4 ≤ c ∧ c ≤ 11) ∨ (100 ≤ c ∧ c ≤ 102) → s'.1 c = s.1 c) (e5 : s'.1 94 5 = s.1 94 5) : WK s' W := by
  unfold WK IX at h ⊢
  rw [e 4 (by omega), e 7 (by omega), e 11 (by omega), e 100 (by omega), e 102 (by omega), e5, e2]
  exact h
theorem WK_of {s : St} {n : Nat} (hW : IW s n) (hX : IX s) : ∃ W : Wd, WK s W ∧ W.2.1 = n := by
  obtain ⟨wl, hwl⟩ := words_l hW
  obtain ⟨h60, wc, wm, hw, -⟩ := hW
  refine ⟨(wl, n, fun w => if s.1 102 w = -4 then w else (s.1 102 w).toNatClampNeg, fun w => (s.1 100 w).toNatClampNeg), ⟨h60, wc, wm, hX, hwl, fun w hwn => ?_, fun w hwn => ?_⟩, rfl⟩
  · have hwn : w < n := hwn
    obtain ⟨a1, a2, a3, a4, a5, a6, a7⟩ := hw w hwn
    dsimp only
    rcases a6 with a6 | ⟨v, v1, v2, v3, v4⟩
    · rw [if_pos a6]; rw [if_pos a6] at a5
      exact ⟨hwn, a5, Or.inl ⟨a6, rfl⟩⟩
    · have n4 : ¬ s.1 102 w = -4 := by rw [v2]; exact nI_m4 (by omega)
      rw [if_neg n4]; rw [if_neg n4] at a5
      rw [v2, nI_clamp (by omega)]
      exact ⟨by omega, by rw [a5, v2], Or.inr rfl⟩
  · obtain ⟨a1, ⟨k, a2, a2'⟩, -⟩ := hw w hwn
    dsimp only
    rw [a1, a2', nI_clamp (by omega)]
    exact ⟨a2, rfl, rfl⟩
section
variable {s : St} {W : Wd} {bc : Nat → Nat} {n : Nat} {l : List Nat}
/-- how a row of letters is found -/
theorem find_cases (hW : WK s W) (hl : isW l) : (∃ j, j < 21 ∧ scan (pf l) 21 0 = nI j ∧ scan (pw W.1 l) W.2.1 0 = -4) ∨ (scan (pf l) 21 0 = -4 ∧ scan (pw W.1 l) W.2.1 0 = -4) ∨ (scan (pf l) 21 0 = -4 ∧ ∃ w, w < W.2.1 ∧ scan (pw W.1 l) W.2.1 0 = nI w) := by
  have h60 := hW.1
  rcases scan_spec (p := pf l) 21 0 (by omega) with ⟨a, b⟩ | ⟨j, a, b, c, d⟩
  · rcases scan_spec (p := pw W.1 l) W.2.1 0 (by omega) with ⟨a', b'⟩ | ⟨j, a', b', c', d'⟩
    · exact Or.inr (Or.inl ⟨a, a'⟩)
    · exact Or.inr (Or.inr ⟨a, j, by omega, d'⟩)
  · refine Or.inl ⟨j, by omega, d, ?_⟩
    rcases scan_spec (p := pw W.1 l) W.2.1 0 (by omega) with ⟨a', b'⟩ | ⟨w, a', b', c', d'⟩
    · exact a'
    · have e1 : fixW.getD j [] = l := by simpa [pf] using c
      have e2 : W.1 w = l := by simpa [pw] using c'
      exfalso
      apply (hW.2.2.2.2.1 w (by omega)).2.1
      rw [e2, ← e1]
      have hj : j < fixW.length := by have : fixW.length = 21 := rfl; omega
      rw [List.getD_eq_getElem?_getD, List.getElem?_eq_getElem hj]
      exact List.getElem_mem hj
theorem tokOf_fix {j : Nat} (hj : j < 21) (h : scan (pf l) 21 0 = nI j) : tokOf W l = some (j, 0) := by
  unfold tokOf; rw [h, if_neg (nI_m4 (by omega)), nI_clamp (by omega)]
theorem tokOf_no (h : scan (pf l) 21 0 = -4) (h' : scan (pw W.1 l) W.2.1 0 = -4) : tokOf W l = some (26, 0) := by
  unfold tokOf; rw [if_pos h, if_pos h']
theorem tokOf_w {w : Nat} (hw : w < 2 ^ 31) (h : scan (pf l) 21 0 = -4) (h' : scan (pw W.1 l) W.2.1 0 = nI w) : tokOf W l = if W.2.2.2 (W.2.2.1 w) = 3 then none else some (23 + W.2.2.2 (W.2.2.1 w), W.2.2.1 w) := by
  unfold tokOf; rw [if_pos h, h', if_neg (nI_m4 hw), nI_clamp hw]
/-- the class's tokens -/
def TC (s : St) (L : List Tok) : Prop := s.1 81 3 = nI L.length ∧ ∀ i t, L[i]? = some t → s.1 82 i = nI t.1 ∧ (23 ≤ t.1 → t.1 ≤ 25 → s.1 83 i = nI t.2.1) ∧ s.1 84 i = nI t.2.2
def FC (s s' : St) : Prop := s'.2 = s.2 ∧ (∀ c, ¬ (81 ≤ c ∧ c ≤ 84) → s'.1 c = s.1 c) ∧ ∀ j, j ≠ 3 → s'.1 81 j = s.1 81 j
theorem FC_refl (s : St) : FC s s := ⟨rfl, fun _ _ => rfl, fun _ _ => rfl⟩
theorem FC_trans {s s1 s2 : St} (h : FC s s1) (h' : FC s1 s2) : FC s s2 := ⟨h'.1.trans h.1, fun c a => (h'.2.1 c a).trans (h.2.1 c a), fun j a => (h'.2.2 j a).trans (h.2.2 j a)⟩
theorem gl_app {α : Type} {L : List α} {x t : α} {i : Nat} (h : (L ++ [x])[i]? = some t) : (i = L.length ∧ t = x) ∨ (i < L.length ∧ L[i]? = some t) := by
  rcases Nat.lt_trichotomy i L.length with q | q | q
  · rw [List.getElem?_append_left q] at h; exact Or.inr ⟨q, h⟩
  · rw [q] at h; simp at h; exact Or.inl ⟨q, h.symm⟩
  · rw [List.getElem?_append_right (by omega)] at h
    have : ([x] : List α)[i - L.length]? = none := by apply List.getElem?_eq_none; simp; omega
    rw [this] at h; cases h
theorem tadd_k {L : List Tok} {k w p : Nat} {v : Int32} (h : TC s L) (hL : L.length < 200) (hv : 23 ≤ k → k ≤ 25 → v = nI w) : ∃ s', F_X7_add (nI k) v (nI p) s = some s' ∧ TC s' (L ++ [(k, w, p)]) ∧ FC s s' := by
  obtain ⟨h1, h2⟩ := h
  unfold F_X7_add
  rw [h1, if_neg (show ¬ (200 : Int32) ≤ nI L.length from nI_ge (b := 200) hL (by omega)), if_neg (grd (n := 200) hL (by omega))]
  dsimp only
  rw [xup_ne (show 81 ≠ 82 by omega), xup_ne (show 81 ≠ 83 by omega), xup_ne (show 81 ≠ 82 by omega), xup_ne (show 81 ≠ 84 by omega), xup_ne (show 81 ≠ 83 by omega), xup_ne (show 81 ≠ 82 by omega), h1, if_neg (grd (n := 200) hL (by omega)), if_neg (grd (n := 200) hL (by omega)), nI_clamp (by omega), nI_s]
  refine ⟨_, rfl, ⟨?_, fun i t ht => ?_⟩, rfl, fun c hc => ?_, fun j hj => ?_⟩
  · dsimp only; rw [xup_eq, if_pos rfl]; simp
  · dsimp only
    rw [xup_ne (show 82 ≠ 81 by omega), xup_ne (show 82 ≠ 84 by omega), xup_ne (show 82 ≠ 83 by omega), xup_ne (show 83 ≠ 81 by omega), xup_ne (show 83 ≠ 84 by omega), xup_ne (show 84 ≠ 81 by omega), xup_eq, xup_eq, xup_eq]
    rcases gl_app ht with ⟨rfl, rfl⟩ | ⟨hi, ht⟩
    · rw [if_pos rfl, if_pos rfl, if_pos rfl]
      exact ⟨rfl, hv, rfl⟩
    · rw [if_neg (by omega), if_neg (by omega), if_neg (by omega), xup_ne (by omega), xup_ne (by omega), xup_ne (by omega)]
      exact h2 i t ht
  · dsimp only; rw [xup_ne (by omega), xup_ne (by omega), xup_ne (by omega), xup_ne (by omega)]
  · dsimp only; rw [xup_j hj, xup_ne (by omega), xup_ne (by omega), xup_ne (by omega)]
theorem addRow_k {L : List Tok} {p : Nat} (hW : WK s W) (hl : isW l) (h : TC s L) (hL : L.length < 200) : ∃ s', F_X7_addRow (lN (k27 l)) (nI p) s = some s' ∧ TC s' (L ++ ((tokOf W l).map fun t => (t.1, t.2, p)).toList) ∧ FC s s' := by
  have h60 := hW.1
  unfold F_X7_addRow
  rw [fixC_l hW.2.2.2.1 hl, Option.bind_some]
  dsimp only
  rcases find_cases hW hl with ⟨j, hj, e1, e2⟩ | ⟨e1, e2⟩ | ⟨e1, w, hw, e2⟩
  · rw [e1, if_neg (nI_m4 (by omega)), tokOf_fix hj e1]
    obtain ⟨s', q1, q2, q3⟩ := tadd_k (k := j) (w := 0) (p := p) (v := -4) h hL (fun x y => by omega)
    rw [q1]
    exact ⟨s', rfl, q2, q3⟩
  · rw [if_pos e1, findC_l h60 hW.2.1 hW.2.2.2.2.1 hl, Option.bind_some, e2, tokOf_no e1 e2]
    dsimp only
    have r1 : F_X8_rootOf (-4) s = some (-4, s) := by unfold F_X8_rootOf; rw [if_pos (by decide)]
    have r2 : F_X8_sortOf (-4) s = some (-4, s) := by unfold F_X8_sortOf; rw [if_pos (by decide)]
    rw [r1, Option.bind_some]
    dsimp only
    rw [r2, Option.bind_some]
    dsimp only
    rw [if_neg (by decide)]
    have r3 : F_X7_kindOfSort (-4) s = some (nI 26, s) := rfl
    rw [r3, Option.bind_some]
    dsimp only
    obtain ⟨s', q1, q2, q3⟩ := tadd_k (k := 26) (w := 0) (p := p) (v := -4) h hL (fun x y => by omega)
    rw [q1]
    exact ⟨s', rfl, q2, q3⟩
  · obtain ⟨t1, t2, t3⟩ := hW.2.2.2.2.2.1 w hw
    obtain ⟨u1, u2, u3⟩ := hW.2.2.2.2.2.2 _ t1
    rw [if_pos e1, findC_l h60 hW.2.1 hW.2.2.2.2.1 hl, Option.bind_some, e2, tokOf_w (by omega) e1 e2]
    dsimp only
    have r1 : F_X8_rootOf (nI w) s = some (nI (W.2.2.1 w), s) := by
      unfold F_X8_rootOf
      rw [if_neg (nI_pos (by omega)), hW.2.1, if_neg (nI_ge hw (by omega)), if_neg (grd (n := 60) (by omega) (by omega)), nI_clamp (by omega), t2]
    have r2 : F_X8_sortOf (nI (W.2.2.1 w)) s = some (nI (W.2.2.2 (W.2.2.1 w)), s) := by
      unfold F_X8_sortOf
      rw [if_neg (nI_pos (by omega)), hW.2.1, if_neg (nI_ge t1 (by omega)), if_neg (grd (n := 60) (by omega) (by omega)), nI_clamp (by omega), u2]
    rw [r1, Option.bind_some]
    dsimp only
    rw [r2, Option.bind_some]
    dsimp only
    by_cases c3 : W.2.2.2 (W.2.2.1 w) = 3
    · rw [if_pos (by rw [c3]; rfl), if_pos c3]
      exact ⟨s, rfl, by simpa using h, FC_refl s⟩
    · rw [if_neg (show ¬ nI (W.2.2.2 (W.2.2.1 w)) = 3 from nI_ne (b := 3) c3 (by omega) (by omega)), if_neg c3]
      have r3 : F_X7_kindOfSort (nI (W.2.2.2 (W.2.2.1 w))) s = some (nI (23 + W.2.2.2 (W.2.2.1 w)), s) := by
        obtain q | q | q : W.2.2.2 (W.2.2.1 w) = 0 ∨ W.2.2.2 (W.2.2.1 w) = 1 ∨ W.2.2.2 (W.2.2.1 w) = 2 := by omega
        all_goals (rw [q]; rfl)
      rw [r3, Option.bind_some]
      dsimp only
      obtain ⟨s', q1, q2, q3⟩ := tadd_k (k := 23 + W.2.2.2 (W.2.2.1 w)) (w := W.2.2.1 w) (p := p) (v := nI (W.2.2.1 w)) h hL (fun x y => rfl)
      rw [q1]
      exact ⟨s', rfl, q2, q3⟩
end
