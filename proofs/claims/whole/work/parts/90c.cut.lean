theorem xokIs_cut {own : String} {cc : ByteArray} {name : String} {P Q : List xI} (s c : Nat) (h : xokIs own cc name P s ((Q.drop s).take c) = true) (h2 : xokIs own cc name P (s + c) (Q.drop (s + c)) = true) : xokIs own cc name P s (Q.drop s) = true := by
  have key : ∀ (xs : List xI) (o c : Nat), xokIs own cc name P o (xs.take c) = true → xokIs own cc name P (o + c) (xs.drop c) = true → xokIs own cc name P o xs = true := by
    intro xs
    induction xs with
    | nil => intro o c _ _; rfl
    | cons x xs ih =>
      intro o c h1 h2
      cases c with
      | zero => simpa using h2
      | succ c =>
        simp only [List.take_succ_cons, xokIs, Bool.and_eq_true] at h1
        simp only [xokIs, Bool.and_eq_true]
        refine ⟨h1.1, ih (o + 1) c h1.2 ?_⟩
        rw [show o + 1 + c = o + (c + 1) by omega]
        simpa using h2
  refine key _ s c h ?_
  rw [List.drop_drop]
  exact h2
theorem xokM_of {me : xMe} (h : xokH me = true) (h1 : 0 < me.2.2.2.2.2.2.length) (h2 : (match me.2.2.2.2.2.2[0]? with | some y => decide (y.1 = 0) | none => false) = true) (h3 : xokIs me.2.2.2.2.1 me.2.1 me.1.name me.2.2.2.2.2.2 0 (me.2.2.2.2.2.2.drop 0) = true) : xokM me = true := by
  unfold xokM
  simp only [Bool.and_eq_true, decide_eq_true_eq]
  exact ⟨h, h1, h2, h3⟩
