section
variable {s : St} {W : Wd} {bc : Nat → Nat} {n : Nat} {l : List Nat}
theorem BY_congr {s s' : St} (h : BY s n bc) (e3 : s'.1 13 = s.1 13) (e4 : s'.1 104 = s.1 104) : BY s' n bc := by
  unfold BY at h ⊢; rw [e3, e4]; exact h
theorem at4_k {i : Nat} (hb : BY s n bc) (hc : s.1 12 1 = nI n) (hi : i < n) : F_X4_at (nI i) s = some (nI (bc i), s) := by
  obtain ⟨h200, hb⟩ := hb
  unfold F_X4_at
  rw [hc, if_neg (nI_pos (by omega)), if_neg (nI_ge hi (by omega)), if_neg (grd (n := 200) (by omega) (by omega)), nI_clamp (by omega), (hb i hi).2.1]
/-- the letter before -/
theorem before_k {i : Nat} (hb : BY s n bc) (hc : s.1 12 1 = nI n) (hi : i < n) : F_X4_letterAt (nI i - 1) s = some (nI (if 0 < i then lt (bc (i - 1)) else 0), s) := by
  have h200 := hb.1
  by_cases e : i = 0
  · subst e
    rw [if_neg (by omega)]
    rfl
  · rw [if_pos (by omega), show (1 : Int32) = nI 1 from rfl, pk_sub (by omega), letterAt_k hb hc (by omega), if_pos (by omega)]
/-- the class parts a line -/
theorem split_k (hb : BY s n bc) : ∀ f i (s : St), BY s n bc → s.1 12 1 = nI n → s.1 81 4 = nI n → WK s W → i ≤ n → n < f + i → TC s (TkL W bc n i) →
    ∃ s', L_X7_split_9 f (nI i) s = some s' ∧ FC s s' ∧ ((∀ j, i ≤ j → j < n → okB (bc j)) → TC s' (TkL W bc n n)) ∧ (∀ j, i ≤ j → j < n → (∀ j', i ≤ j' → j' < j → okB (bc j')) → ¬ okB (bc j) → s'.1 81 3 = 1 ∧ s'.1 82 0 = 27 ∧ s'.1 84 0 = nI j) := by
  have h200 := hb.1
  intro f
  induction f with
  | zero => intro i s _ _ _ _ h1 h2; omega
  | succ f ih =>
    intro i s hb hc h4 hW h1 h2 hT
    unfold L_X7_split_9
    rw [h4]
    by_cases e : i = n
    · rw [if_pos (nI_le (by omega) (by omega))]
      subst e
      exact ⟨s, rfl, FC_refl s, fun _ => hT, fun j a b => by omega⟩
    have hi : i < n := by omega
    have hL := TkL_len W bc n i
    have hby := (hb.2 i hi).1
    rw [if_neg (nI_ge hi (by omega)), at4_k hb hc hi, Option.bind_some]
    dsimp only
    rw [letterAt_k hb hc (by omega), Option.bind_some, if_pos hi]
    dsimp only
    -- a step with a good byte
    have go : ∀ s1, okB (bc i) → TC s1 (TkL W bc n (i + 1)) → FC s s1 → ∃ s', L_X7_split_9 f (nI (i + 1)) s1 = some s' ∧ FC s s' ∧ ((∀ j, i ≤ j → j < n → okB (bc j)) → TC s' (TkL W bc n n)) ∧ (∀ j, i ≤ j → j < n → (∀ j', i ≤ j' → j' < j → okB (bc j')) → ¬ okB (bc j) → s'.1 81 3 = 1 ∧ s'.1 82 0 = 27 ∧ s'.1 84 0 = nI j) := by
      intro s1 hok hT1 hF
      obtain ⟨s', q1, q2, q3, q4⟩ := ih (i + 1) s1 (BY_congr hb (hF.2.1 13 (by omega)) (hF.2.1 104 (by omega))) (by rw [hF.2.1 12 (by omega)]; exact hc) (by rw [hF.2.2 4 (by omega)]; exact h4) (WK_congr hW hF.1 (fun c x => hF.2.1 c (by omega)) (by rw [hF.2.1 94 (by omega)])) (by omega) (by omega) hT1
      refine ⟨s', q1, FC_trans hF q2, fun h => q3 (fun j x y => h j (by omega) y), fun j x y h h' => ?_⟩
      by_cases ej : j = i
      · subst ej; exact absurd hok h'
      · exact q4 j (by omega) y (fun j' a b => h j' (by omega) b) h'
    by_cases c0 : lt (bc i) = 0
    · rw [if_pos (by rw [c0]; rfl), nI_s]
      by_cases k44 : bc i = 44
      · rw [if_pos (by rw [k44]; rfl)]
        obtain ⟨s1, q1, q2, q3⟩ := tadd_k (k := 21) (w := 0) (p := i) (v := -4) hT (by omega) (fun x y => by omega)
        rw [show (21 : Int32) = nI 21 from rfl, q1, Option.bind_some]
        apply go s1 (Or.inr (Or.inl k44)) _ q3
        rw [TkL_s]; unfold tokAt; rw [if_neg (fun q => q c0), if_pos k44]; exact q2
      rw [if_neg (show ¬ nI (bc i) = 44 from nI_ne (b := 44) k44 (by omega) (by omega))]
      by_cases k46 : bc i = 46
      · rw [if_pos (by rw [k46]; rfl)]
        obtain ⟨s1, q1, q2, q3⟩ := tadd_k (k := 22) (w := 0) (p := i) (v := -4) hT (by omega) (fun x y => by omega)
        rw [show (22 : Int32) = nI 22 from rfl, q1, Option.bind_some]
        apply go s1 (Or.inr (Or.inr (Or.inl k46))) _ q3
        rw [TkL_s]; unfold tokAt; rw [if_neg (fun q => q c0), if_neg k44, if_pos k46]; exact q2
      rw [if_neg (show ¬ nI (bc i) = 46 from nI_ne (b := 46) k46 (by omega) (by omega))]
      have hno : tokAt W bc n i = none := by unfold tokAt; rw [if_neg (fun q => q c0), if_neg k44, if_neg k46]
      by_cases k32 : bc i = 32
      · rw [if_pos (by rw [k32]; rfl)]
        apply go s (Or.inr (Or.inr (Or.inr k32))) _ (FC_refl s)
        rw [TkL_s, hno]; simpa using hT
      rw [if_neg (show ¬ nI (bc i) = 32 from nI_ne (b := 32) k32 (by omega) (by omega))]
      have hbad : ¬ okB (bc i) := by unfold okB; omega
      have hT0 : TC (xup s.1 81 3 0, s.2) [] := ⟨by dsimp only; rw [xup_eq, if_pos rfl]; rfl, fun i t h => by simp at h⟩
      obtain ⟨s1, q1, q2, q3⟩ := tadd_k (k := 27) (w := 0) (p := i) (v := -4) hT0 (by simp) (fun x y => by omega)
      have hr : F_X7_leaveOnlyStrangeByte (nI i) s = some s1 := by
        unfold F_X7_leaveOnlyStrangeByte
        dsimp only
        rw [show (27 : Int32) = nI 27 from rfl, q1, Option.bind_some]
      rw [hr, Option.bind_some]
      obtain ⟨u1, u2⟩ := q2
      obtain ⟨u3, u4, u5⟩ := u2 0 (27, 0, i) rfl
      refine ⟨s1, rfl, FC_trans (s1 := (xup s.1 81 3 0, s.2)) ⟨rfl, fun c x => ?_, fun j x => ?_⟩ q3, fun h => absurd (h i (by omega) hi) hbad, fun j x y h h' => ?_⟩
      · dsimp only; rw [xup_ne (by omega)]
      · dsimp only; rw [xup_j x]
      · by_cases ej : j = i
        · subst ej; exact ⟨u1, u3, u5⟩
        · exact absurd (h i (by omega) (by omega)) hbad
    · have := lt_le (bc i)
      rw [if_neg (nI_ne0 (by omega) (by omega)), before_k hb hc hi, Option.bind_some, nI_s]
      dsimp only
      by_cases cb : 0 < i ∧ lt (bc (i - 1)) ≠ 0
      · have := lt_le (bc (i - 1))
        rw [if_pos cb.1, if_neg (nI_ne0 (by omega) (by omega))]
        apply go s (Or.inl c0) _ (FC_refl s)
        rw [TkL_s]; unfold tokAt; rw [if_pos c0, if_pos cb]; simpa using hT
      · rw [if_pos (show nI (if 0 < i then lt (bc (i - 1)) else 0) = 0 by
          by_cases q : 0 < i
          · rw [if_pos q]
            have : lt (bc (i - 1)) = 0 := by
              rcases Nat.eq_zero_or_pos (lt (bc (i - 1))) with w | w
              · exact w
              · exact absurd ⟨q, by omega⟩ cb
            rw [this]; rfl
          · rw [if_neg q]; rfl), keyAt_k hb hc (by omega), Option.bind_some]
        dsimp only
        have hrw : isW (rowL bc n 8 i) := rowL_W (by omega) hi c0
        obtain ⟨s1, q1, q2, q3⟩ := addRow_k (p := i) hW hrw hT (by omega)
        rw [q1, Option.bind_some]
        apply go s1 (Or.inl c0) _ q3
        rw [TkL_s]; unfold tokAt; rw [if_pos c0, if_neg cb]; exact q2
end
