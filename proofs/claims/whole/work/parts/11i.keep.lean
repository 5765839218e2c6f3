section
variable {s : St} {E : LEnv} {T : Nat → List Nat} {o a b actor : Nat}
theorem keepDraft_run {I1 I2 I3 I4 I5 : Nat → Nat → Int32} (a1 : F_X1_keep 85 s = some (I1, s.2)) (b1 : F_X3_learn 92 (I1, s.2) = some (I2, s.2)) (c1 : F_X5_clear 92 (I2, s.2) = some (I3, s.2)) (d1 : F_X3_learn 86 (I3, s.2) = some (I4, s.2)) (g1 : F_X3_learn 88 (I4, s.2) = some (I5, s.2)) : F_X2_keepDraft s = some (I5, s.2) := by
  unfold F_X2_keepDraft
  rw [a1, Option.bind_some, b1, Option.bind_some, c1, Option.bind_some, d1, Option.bind_some, g1, Option.bind_some]
theorem keepDraft_k {A : Ab} {c : Cmd} {ad : List Nat} (hE : EOK E) (hs : CE s E) (hA : CA s A) (hr : CO s 85 (actor, c)) (had : CL s 92 ad) (hn : A.2.1.length < 10) (hlt : ∀ x ∈ ad, x < eT E) (hl1 : ∀ x ∈ c.2.2.1, x < eT E) (hl2 : ∀ x ∈ c.2.2.2, x < eT E) :
    ∃ I', F_X2_keepDraft s = some (I', s.2) ∧ CA (I', s.2) (keepA A (learn E (learn E (learn E A.1 ad) c.2.2.1) c.2.2.2) (actor, c)) ∧ CL (I', s.2) 92 [] ∧ (∀ d, ¬ (15 ≤ d ∧ d ≤ 23) → ¬ (25 ≤ d ∧ d ≤ 79) → ¬ (92 ≤ d ∧ d ≤ 93) → I' d = s.1 d) := by
  obtain ⟨I1, a1, a2, a3⟩ := keep_k hA hr (Or.inl rfl) hn
  have e1 : CE (I1, s.2) E := CE_congr hs (fun c q => a3 c (by omega) (by omega))
  have w1 : CL (I1, s.2) 92 ad := CL_congr had (a3 92 (by omega) (by omega)) (a3 93 (by omega) (by omega))
  obtain ⟨I2, b1, b2, b3⟩ := learn_k hE e1 a2.1 w1 (by omega) hlt
  obtain ⟨I3, c1, c2, c3, c4⟩ := clear_k (s := (I2, s.2)) (o := 92)
  have e3 : CE (I3, s.2) E := CE_congr e1 (fun c q => (c3 c (by omega) (by omega)).trans (b3 c (by omega)))
  have t3 : CT (I3, s.2) (learn E A.1 ad) := CT_congr b2 (fun c x y => c3 c (by omega) (by omega))
  have f3 : ∀ d, ¬ (15 ≤ d ∧ d ≤ 23) → ¬ (25 ≤ d ∧ d ≤ 79) → ¬ (92 ≤ d ∧ d ≤ 93) → I3 d = s.1 d := fun d x y z => (c3 d (by omega) (by omega)).trans ((b3 d (by omega)).trans (a3 d (by omega) y))
  have w3 : CL (I3, s.2) 86 c.2.2.1 := CL_congr hr.2.2.2.1 (f3 86 (by omega) (by omega) (by omega)) (f3 87 (by omega) (by omega) (by omega))
  obtain ⟨I4, d1, d2, d3⟩ := learn_k hE e3 t3 w3 (by omega) hl1
  have e4 : CE (I4, s.2) E := CE_congr e3 (fun c q => d3 c (by omega))
  have w4 : CL (I4, s.2) 88 c.2.2.2 := CL_congr hr.2.2.2.2 ((d3 88 (by omega)).trans (f3 88 (by omega) (by omega) (by omega))) ((d3 89 (by omega)).trans (f3 89 (by omega) (by omega) (by omega)))
  obtain ⟨I5, g1, g2, g3⟩ := learn_k hE e4 d2 w4 (by omega) hl2
  have f5 : ∀ d, ¬ (15 ≤ d ∧ d ≤ 22) → ¬ (92 ≤ d ∧ d ≤ 93) → I5 d = I1 d := fun d x z => (g3 d x).trans ((d3 d x).trans ((c3 d (by omega) (by omega)).trans (b3 d x)))
  exact ⟨I5, keepDraft_run a1 b1 c1 d1 g1, CA_mk a2 g2 f5, CL_congr c2 ((g3 92 (by omega)).trans (d3 92 (by omega))) ((g3 93 (by omega)).trans (d3 93 (by omega))), fun d x y z => (f5 d (by omega) z).trans (a3 d (by omega) y)⟩
end
