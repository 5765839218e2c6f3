/-- an order of the class -/
def CO (s : St) (o : Nat) (r : Ord) : Prop := s.1 o 2 = nI r.1 ∧ s.1 o 3 = nI r.2.1 ∧ s.1 o 4 = r.2.2.1 ∧ CL s (o + 1) r.2.2.2.1 ∧ CL s (o + 3) r.2.2.2.2
theorem CO_congr {s s' : St} {o : Nat} {r : Ord} (h : CO s o r) (e : ∀ c, o ≤ c → c ≤ o + 4 → s'.1 c = s.1 c) : CO s' o r := by
  obtain ⟨h1, h2, h3, h4, h5⟩ := h
  exact ⟨by rw [e o (by omega) (by omega)]; exact h1, by rw [e o (by omega) (by omega)]; exact h2, by rw [e o (by omega) (by omega)]; exact h3, CL_congr h4 (e _ (by omega) (by omega)) (e _ (by omega) (by omega)), CL_congr h5 (e _ (by omega) (by omega)) (e _ (by omega) (by omega))⟩
/-- all that the class keeps beyond a command -/
def CA (s : St) (A : Ab) : Prop := CT s A.1 ∧ s.1 23 2 = nI A.2.1.length ∧ A.2.1.length ≤ 10 ∧ s.1 23 3 = A.2.2.2 ∧ (∀ i r, A.2.1[i]? = some r → CO s (30 + 5 * i) r) ∧ CO s 25 A.2.2.1
theorem CA_congr {s s' : St} {A : Ab} (h : CA s A) (e : ∀ c, (15 ≤ c ∧ c ≤ 23) ∨ (25 ≤ c ∧ c ≤ 79) → s'.1 c = s.1 c) : CA s' A := by
  obtain ⟨h1, h2, h3, h4, h5, h6⟩ := h
  refine ⟨CT_congr h1 (fun c x y => e c (by omega)), by rw [e 23 (by omega)]; exact h2, h3, by rw [e 23 (by omega)]; exact h4, fun i r hr => CO_congr (h5 i r hr) (fun c x y => e c ?_), CO_congr h6 (fun c x y => e c (by omega))⟩
  have := (List.getElem?_eq_some_iff.mp hr).1
  omega
section
variable {s : St} {E : LEnv} {T : Nat → List Nat} {o a b actor : Nat}
theorem ocopy_k {r : Ord} (h : CO s a r) (hoa : o = a ∨ o + 4 < a ∨ a + 4 < o) : ∃ I', F_X0_copyFrom o a s = some (I', s.2) ∧ CO (I', s.2) o r ∧ ∀ c, ¬ (o ≤ c ∧ c ≤ o + 4) → I' c = s.1 c := by
  obtain ⟨h1, h2, h3, h4, h5⟩ := h
  -- the three numbers
  obtain ⟨J, hJ, j2, j3, j4, jf⟩ : ∃ J : Nat → Nat → Int32, J = xup (xup (xup s.1 o 2 (s.1 a 2)) o 3 (xup s.1 o 2 (s.1 a 2) a 3)) o 4 (xup (xup s.1 o 2 (s.1 a 2)) o 3 (xup s.1 o 2 (s.1 a 2) a 3) a 4) ∧ J o 2 = nI r.1 ∧ J o 3 = nI r.2.1 ∧ J o 4 = r.2.2.1 ∧ ∀ c, c ≠ o → J c = s.1 c := by
    refine ⟨_, rfl, ?_, ?_, ?_, fun c hc => by rw [xup_ne hc, xup_ne hc, xup_ne hc]⟩
    · rw [xup_j (by omega), xup_j (by omega), xup_eq, if_pos rfl]; exact h1
    · rw [xup_j (by omega), xup_eq, if_pos rfl, xup_j (by omega)]; exact h2
    · rw [xup_eq, if_pos rfl, xup_j (by omega), xup_j (by omega)]; exact h3
  have c4 : CL (J, s.2) (a + 1) r.2.2.2.1 := CL_congr h4 (jf _ (by omega)) (jf _ (by omega))
  obtain ⟨I1, p1, p2, p3, -⟩ := copy_k (o := o + 1) c4 (by omega)
  have c5 : CL (I1, s.2) (a + 3) r.2.2.2.2 := CL_congr h5 (by dsimp only; rw [p3 _ (by omega) (by omega)]; exact jf _ (by omega)) (by dsimp only; rw [p3 _ (by omega) (by omega)]; exact jf _ (by omega))
  obtain ⟨I2, q1, q2, q3, -⟩ := copy_k (o := o + 3) c5 (by omega)
  unfold F_X0_copyFrom
  dsimp only at p1 q1
  dsimp only
  rw [← hJ, p1]
  simp only [Option.bind_some]
  rw [q1]
  refine ⟨I2, rfl, ⟨?_, ?_, ?_, CL_congr p2 (q3 _ (by omega) (by omega)) (q3 _ (by omega) (by omega)), q2⟩, fun c hc => ?_⟩
  · dsimp only; rw [q3 o (by omega) (by omega)]; dsimp only; rw [p3 o (by omega) (by omega)]; exact j2
  · dsimp only; rw [q3 o (by omega) (by omega)]; dsimp only; rw [p3 o (by omega) (by omega)]; exact j3
  · dsimp only; rw [q3 o (by omega) (by omega)]; dsimp only; rw [p3 o (by omega) (by omega)]; exact j4
  · rw [q3 c (by omega) (by omega)]; dsimp only; rw [p3 c (by omega) (by omega)]; exact jf c (by omega)
theorem keep_k {A : Ab} {r : Ord} (hA : CA s A) (hr : CO s a r) (ha : a = 85 ∨ (a = 25 ∧ r = A.2.2.1)) (hn : A.2.1.length < 10) : ∃ I', F_X1_keep a s = some (I', s.2) ∧ CA (I', s.2) (keepA A A.1 r) ∧ ∀ c, c ≠ 23 → ¬ (25 ≤ c ∧ c ≤ 79) → I' c = s.1 c := by
  obtain ⟨h1, h2, h3, h4, h5, h6⟩ := hA
  obtain ⟨I1, p1, p2, p3⟩ := ocopy_k (o := 30 + 5 * A.2.1.length) hr (by omega)
  have hr1 : CO (I1, s.2) a r := CO_congr hr (fun c x y => p3 c (by omega))
  obtain ⟨I2, q1, q2, q3⟩ := ocopy_k (o := 25) hr1 (by omega)
  unfold F_X1_keep
  rw [h2, if_neg (show ¬ (10 : Int32) ≤ nI A.2.1.length from nI_ge (b := 10) (by omega) (by omega)), if_neg (grd (n := 10) hn (by omega)), nI_clamp (by omega), p1]
  simp only [Option.bind_some]
  rw [q1]
  simp only [Option.bind_some]
  have e23 : I2 23 = s.1 23 := by rw [q3 23 (by omega)]; exact p3 23 (by omega)
  have fr : ∀ c, c ≠ 23 → xup (xup I2 23 2 (I2 23 2 + 1)) 23 3 (xup I2 23 2 (I2 23 2 + 1) 23 3 + 1) c = I2 c := fun c hc => by rw [xup_ne hc, xup_ne hc]
  refine ⟨_, rfl, ⟨?_, ?_, ?_, ?_, ?_, ?_⟩, fun c c1 c2 => ?_⟩
  · exact CT_congr h1 (fun c x y => by dsimp only; rw [fr c (by omega), q3 c (by omega)]; exact p3 c (by omega))
  · dsimp only; rw [xup_j (by omega), xup_eq, if_pos rfl, e23, h2, nI_s]; simp [keepA]
  · simp [keepA]; omega
  · dsimp only; rw [xup_eq, if_pos rfl, xup_j (by omega), e23, h4]; rfl
  · intro i r' hr'
    have hi : i < A.2.1.length + 1 := by have := (List.getElem?_eq_some_iff.mp hr').1; simpa [keepA] using this
    by_cases e : i = A.2.1.length
    · have : r' = r := by
        rw [e] at hr'; simp [keepA] at hr'; exact hr'.symm
      rw [this, e]
      exact CO_congr p2 (fun c x y => by dsimp only; rw [fr c (by omega)]; exact q3 c (by omega))
    · have hr2 : A.2.1[i]? = some r' := by
        simp only [keepA] at hr'
        rw [List.getElem?_append_left (by omega)] at hr'; exact hr'
      exact CO_congr (h5 i r' hr2) (fun c x y => by dsimp only; rw [fr c (by omega), q3 c (by omega)]; exact p3 c (by omega))
  · exact CO_congr q2 (fun c x y => by dsimp only; rw [fr c (by omega)])
  · rw [fr c c1, q3 c (by omega)]; exact p3 c (by omega)
theorem CT_up {I' : Nat → Nat → Int32} {p : Nat} {l : List Nat} (hT : CT s T) (hp : p < 4) (hl : CL (I', s.2) (15 + 2 * p) l) (hf : Fr s.1 I' (15 + 2 * p)) : CT (I', s.2) (up T p l) := by
  intro q hq
  unfold up
  by_cases e : q = p
  · rw [if_pos e, e]; exact hl
  · rw [if_neg e]
    exact CL_congr (hT q hq) (hf _ (by omega) (by omega)) (hf _ (by omega) (by omega))
theorem learn_k {l : List Nat} (hE : EOK E) (hs : CE s E) (hT : CT s T) (hl : CL s a l) (ha : a = 86 ∨ a = 88 ∨ a = 92) (hlt : ∀ x ∈ l, x < eT E) : ∃ I', F_X3_learn a s = some (I', s.2) ∧ CT (I', s.2) (learn E T l) ∧ ∀ c, ¬ (15 ≤ c ∧ c ≤ 22) → I' c = s.1 c := by
  have hlen := CL_len hl
  have h24 := hE.2.1
  unfold F_X3_learn
  rw [hl.1]
  match l, hl, hlt, hlen with
  | [], hl, hlt, hlen =>
    rw [show nI ([] : List Nat).length = 0 from rfl, if_pos (by decide), if_neg (by decide)]
    exact ⟨s.1, rfl, hT, fun _ _ => rfl⟩
  | [x], hl, hlt, hlen =>
    have hx : x < eT E := hlt x (by simp)
    have hk4 := hE.2.2.2.1 x hx
    have h0 : F_X5_at a 0 s = some (nI x, s) := lat_k (k := 0) hl rfl
    rw [show nI [x].length = 1 from rfl, if_pos (by decide), if_pos rfl, h0]
    simp only [Option.bind_some, learn]
    by_cases e0 : x = 0
    · rw [if_pos (show nI x = 0 by rw [e0]; rfl), if_pos e0]
      exact ⟨s.1, rfl, hT, fun _ _ => rfl⟩
    · rw [if_neg (nI_ne0 (by omega) (by omega)), if_neg e0]
      have hkd : F_X6_kindOf (nI x) s = some (nI (eK E x), s) := by
        unfold F_X6_kindOf
        rw [hs.1, if_neg (nI_pos (by omega)), if_neg (nI_ge hx (by omega)), if_neg (grd (n := 24) (by omega) (by omega)), nI_clamp (by omega), hs.2.1 x hx]
      rw [h0]
      simp only [Option.bind_some]
      rw [hkd]
      simp only [Option.bind_some]
      rw [mb_p _ hk4]
      simp only [Option.bind_some]
      obtain ⟨I', q1, q2, q3, -⟩ := copy_k (o := 15 + 2 * eK E x) hl (by omega)
      rw [q1]
      exact ⟨I', rfl, CT_up hT hk4 q2 q3, fun c hc => q3 c (by omega) (by omega)⟩
  | x :: y :: r, hl, hlt, hlen =>
    rw [if_neg (show ¬ nI (x :: y :: r).length ≤ 1 from nI_ge (a := 1) (by simp) (by omega))]
    obtain ⟨I', q1, q2, q3, -⟩ := copy_k (o := 21) hl (by omega)
    rw [q1]
    exact ⟨I', rfl, CT_up (p := 3) hT (by omega) q2 q3, fun c hc => q3 c (by omega) (by omega)⟩
theorem TOK_learn {l : List Nat} (hE : EOK E) (hT : TOK E T) (hn : l.Nodup) (hlt : ∀ x ∈ l, x < eT E) : TOK E (learn E T l) := by
  match l, hn, hlt with
  | [], _, _ => exact hT
  | [x], hn, hlt =>
    unfold learn
    dsimp only
    split
    · exact hT
    · intro p hp; unfold up; split
      · exact ⟨hn, hlt⟩
      · exact hT p hp
  | x :: y :: r, hn, hlt =>
    intro p hp; unfold learn up; dsimp only; split
    · exact ⟨hn, hlt⟩
    · exact hT p hp
/-- the table and the rest, put together -/
theorem CA_mk {I1 I5 : Nat → Nat → Int32} {J : Nat → Nat → Int64} {A : Ab} {T' : Nat → List Nat} {r : Ord} (a2 : CA (I1, J) (keepA A A.1 r)) (hT : CT (I5, J) T') (f5 : ∀ d, ¬ (15 ≤ d ∧ d ≤ 22) → ¬ (92 ≤ d ∧ d ≤ 93) → I5 d = I1 d) : CA (I5, J) (keepA A T' r) := by
  obtain ⟨k1, k2, k3, k4, k5, k6⟩ := a2
  refine ⟨hT, (congrFun (f5 23 (by omega) (by omega)) 2).trans k2, k3, (congrFun (f5 23 (by omega) (by omega)) 3).trans k4, fun i r' hr => CO_congr (k5 i r' hr) (fun c x y => f5 c (by omega) ?_), CO_congr k6 (fun c x y => f5 c (by omega) (by omega))⟩
  have h1 := (List.getElem?_eq_some_iff.mp hr).1
  have h2 : (keepA A T' r).2.1.length ≤ 10 := k3
  omega
end
