section
variable {s : St} {E : LEnv} {T : Nat → List Nat} {a b p actor n sd : Nat} {l : List Nat}
theorem ROK_len {r : Ord} (hE : EOK E) (h : ROK E r) : r.2.2.2.1.length ≤ 24 ∧ r.2.2.2.2.length ≤ 24 := by
  have h24 := hE.2.1
  have h1 := pig (eT E) _ h.2.1.1 h.2.1.2
  have h2 := pig (eT E) _ h.2.2.1 h.2.2.2
  omega
theorem MOr_fr {s' : St} {i : Nat} {r : Ord} (h : MOr s i r) (hl : r.2.2.2.1.length ≤ 24 ∧ r.2.2.2.2.length ≤ 24) (e7 : s'.1 107 i = s.1 107 i) (e8 : s'.1 108 i = s.1 108 i) (e9 : s'.1 109 i = s.1 109 i) (e1 : s'.1 111 (2 * i) = s.1 111 (2 * i)) (e1' : s'.1 111 (2 * i + 1) = s.1 111 (2 * i + 1)) (e0 : ∀ j, 48 * i ≤ j → j < 48 * i + 48 → s'.1 110 j = s.1 110 j) : MOr s' i r := by
  obtain ⟨h1, h2, h3, h4, h5⟩ := h
  exact ⟨e7.trans h1, e8.trans h2, e9.trans h3, ML_f h4 e1 (fun k hk => e0 _ (by omega) (by omega)) hl.1, ML_f h5 e1' (fun k hk => e0 _ (by omega) (by omega)) hl.2⟩
theorem und41 (hn : n < 10) (hsd : sd < 2) (h24 : s.1 94 24 = nI n) (h13 : s.1 113 sd = nI l.length) (hl : ∀ k x, l[k]? = some x → s.1 110 (48 * n + 24 * sd + k) = nI x) (hlen : l.length ≤ 24) : ∀ f k (s' : St), k ≤ l.length → l.length < f + k → CP s s' 112 (24 * sd) l k →
    ∃ s'', L_X10_understood_41 f (nI sd) (nI k) s' = some s'' ∧ CP s s'' 112 (24 * sd) l l.length := by
  intro f
  induction f with
  | zero => intro k s' h1 h2; omega
  | succ f ih =>
    intro k s' h1 h2 hc
    unfold L_X10_understood_41
    rw [if_neg (grd (n := 2) hsd (by omega)), nI_clamp (by omega), hc.2.1 113 (by omega), h13]
    by_cases e : k = l.length
    · rw [if_pos (nI_le (by omega) (by omega))]
      subst e
      exact ⟨s', rfl, hc⟩
    · have hk : k < l.length := by omega
      have hx : l[k]? = some l[k] := List.getElem?_eq_getElem hk
      rw [if_neg (nI_ge hk (by omega)), hc.2.1 94 (by omega), h24, nI4824, if_neg (grd (n := 480) (by omega) (by omega)), nI24, nI_add, if_neg (grd (n := 48) (by omega) (by omega)), nI_clamp (by omega), nI_clamp (by omega), hc.2.1 110 (by omega), hl k _ hx, nI_s]
      exact ih (k + 1) _ (by omega) (by omega) (CP_step hc hx (by omega))
theorem und_side (hn : n < 10) (hsd : sd < 2) (h24 : s.1 94 24 = nI n) (hl : ML (fun k => s.1 110 (48 * n + 24 * sd + k)) (s.1 111 (2 * n + sd)) l) (hlen : l.length ≤ 24) :
    ∃ s2, (∀ f, L_X10_understood_23 (f + 1) (nI sd) s = L_X10_understood_23 f (nI (sd + 1)) s2) ∧ s2.2 = s.2 ∧ (∀ c, c ≠ 112 → c ≠ 113 → s2.1 c = s.1 c) ∧ (∀ j, j ≠ sd → s2.1 113 j = s.1 113 j) ∧ (∀ j, (j < 24 * sd ∨ 24 * sd + 24 ≤ j) → s2.1 112 j = s.1 112 j) ∧ ML (fun k => s2.1 112 (24 * sd + k)) (s2.1 113 sd) l := by
  obtain ⟨s2, q1, q2⟩ := und41 (s := (xup s.1 113 sd (nI l.length), s.2)) (l := l) hn hsd (by dsimp only; rw [xup_ne (by omega)]; exact h24) (by dsimp only; rw [xup_eq, if_pos rfl]) (fun k x hx => by dsimp only; rw [xup_ne (by omega)]; exact hl.2 k x hx) hlen 300 0 _ (by omega) (by omega) (CP_0 _ _ _ _)
  rw [nI_0] at q1
  refine ⟨s2, fun f => ?_, q2.1, fun c c1 c2 => ?_, fun j hj => ?_, fun j hj => ?_, ?_, fun k x hx => CP_end q2 hx⟩
  · conv => lhs; unfold L_X10_understood_23
    rw [if_neg (show ¬ (2 : Int32) ≤ nI sd from nI_ge (b := 2) hsd (by omega)), h24, nI2, nI_add, if_neg (grd (n := 20) (by omega) (by omega)), if_neg (grd (n := 2) hsd (by omega)), nI_clamp (n := sd) (by omega), nI_clamp (by omega), hl.1]
    dsimp only
    rw [q1, Option.bind_some, nI_s]
  · rw [q2.2.1 c c1]; dsimp only; rw [xup_ne c2]
  · rw [q2.2.1 113 (by omega)]; dsimp only; rw [xup_j hj]
  · rw [q2.2.2.1 j hj]; dsimp only; rw [xup_ne (by omega)]
  · rw [q2.2.1 113 (by omega)]; dsimp only; rw [xup_eq, if_pos rfl]
/-- a guarded write -/
def gset {α : Type} (f : Int32 → Int32) (c N : Nat) (v : Int32) (I : Nat → Nat → Int32) (K : (Nat → Nat → Int32) → Option α) : Option α := if f (I 94 24) < 0 ∨ N ≤ (f (I 94 24)).toNatClampNeg then none else K (xup I c (f (I 94 24)).toNatClampNeg v)
theorem gset_k {α : Type} {f : Int32 → Int32} {c N m : Nat} {v : Int32} {I : Nat → Nat → Int32} {K : (Nat → Nat → Int32) → Option α} (h : f (I 94 24) = nI m) (hm : m < N) (hN : N ≤ 2000) : gset f c N v I K = K (xup I c m v) := by
  unfold gset
  rw [h, if_neg (grd hm hN), nI_clamp (by omega)]
/-- the draft is understood -/
theorem und_k {A : Ab} {r : Ord} (hB : MB s A T r) (hn : A.2.1.length < 10) (hr : r.2.2.2.1.length ≤ 24 ∧ r.2.2.2.2.length ≤ 24) :
    ∃ s', F_X10_understood s = some s' ∧ s'.2 = s.2 ∧ (∀ c, c ≠ 94 → c ≠ 112 → c ≠ 113 → s'.1 c = s.1 c) ∧ (∀ j, ¬ (24 ≤ j ∧ j ≤ 28) → s'.1 94 j = s.1 94 j) ∧ MA s' (keepA A T r) := by
  obtain ⟨⟨h1, h2, h3, h4, h5, h6⟩, h7, h8, h9, h10, h11⟩ := hB
  dsimp only at h1 h2 h3 h4 h5 h6
  obtain ⟨J, hJ, j26, j27, j28, jc, jj⟩ : ∃ J : Nat → Nat → Int32, J = xup (xup (xup s.1 94 26 (s.1 107 A.2.1.length)) 94 27 (s.1 108 A.2.1.length)) 94 28 (s.1 109 A.2.1.length) ∧ J 94 26 = nI r.1 ∧ J 94 27 = nI r.2.1 ∧ J 94 28 = r.2.2.1 ∧ (∀ c, c ≠ 94 → J c = s.1 c) ∧ (∀ j, ¬ (26 ≤ j ∧ j ≤ 28) → J 94 j = s.1 94 j) := by
    refine ⟨_, rfl, ?_, ?_, ?_, fun c hc => by rw [xup_ne hc, xup_ne hc, xup_ne hc], fun j hj => by rw [xup_j (by omega), xup_j (by omega), xup_j (by omega)]⟩
    · rw [xup_j (by omega), xup_j (by omega), xup_eq, if_pos rfl]; exact h7
    · rw [xup_j (by omega), xup_eq, if_pos rfl]; exact h8
    · rw [xup_eq, if_pos rfl]; exact h9
  have e : F_X10_understood s = (L_X10_understood_23 300 0 (J, s.2)).bind fun q18 => some (xup (xup q18.1 94 24 (q18.1 94 24 + 1)) 94 25 (xup q18.1 94 24 (q18.1 94 24 + 1) 94 25 + 1), q18.2) := by
    have g : ∀ {α : Type} {x y : Option α}, (if nI A.2.1.length < 0 ∨ 10 ≤ (nI A.2.1.length).toNatClampNeg then x else y) = y := fun {α x y} => if_neg (grd (n := 10) hn (by omega))
    unfold F_X10_understood
    dsimp only
    rw [xup_j (show 24 ≠ 26 by omega), xup_ne (show 108 ≠ 94 by omega), xup_j (show 24 ≠ 27 by omega), xup_j (show 24 ≠ 26 by omega), xup_ne (show 109 ≠ 94 by omega), xup_ne (show 109 ≠ 94 by omega), h2, g, g, g, nI_clamp (by omega), hJ]
  obtain ⟨s1, a1, a2, a3, a4, a5, a6⟩ := und_side (s := (J, s.2)) (n := A.2.1.length) (sd := 0) (l := r.2.2.2.1) hn (by omega) (by dsimp only; rw [jj 24 (by omega)]; exact h2) (by dsimp only; rw [jc 110 (by omega), jc 111 (by omega)]; exact h10) hr.1
  obtain ⟨s2, b1, b2, b3, b4, b5, b6⟩ := und_side (s := s1) (n := A.2.1.length) (sd := 1) (l := r.2.2.2.2) hn (by omega) (by rw [a3 94 (by omega) (by omega)]; dsimp only; rw [jj 24 (by omega)]; exact h2) (by rw [a3 110 (by omega) (by omega), a3 111 (by omega) (by omega)]; dsimp only; rw [jc 110 (by omega), jc 111 (by omega)]; exact h11) hr.2
  have hrun : L_X10_understood_23 300 0 (J, s.2) = some s2 := by
    have := a1 299
    rw [nI_0] at this
    rw [this, b1 298]
    rfl
  rw [e, hrun, Option.bind_some]
  have ec : ∀ c, c ≠ 94 → c ≠ 112 → c ≠ 113 → s2.1 c = s.1 c := fun c c1 c2 c3 => by rw [b3 c c2 c3, a3 c c2 c3]; exact jc c c1
  have e94 : s2.1 94 = J 94 := by rw [b3 94 (by omega) (by omega), a3 94 (by omega) (by omega)]
  have fr : ∀ c, c ≠ 94 → xup (xup s2.1 94 24 (s2.1 94 24 + 1)) 94 25 (xup s2.1 94 24 (s2.1 94 24 + 1) 94 25 + 1) c = s2.1 c := fun c hc => by rw [xup_ne hc, xup_ne hc]
  have fj : ∀ j, j ≠ 24 → j ≠ 25 → xup (xup s2.1 94 24 (s2.1 94 24 + 1)) 94 25 (xup s2.1 94 24 (s2.1 94 24 + 1) 94 25 + 1) 94 j = s2.1 94 j := fun j x y => by rw [xup_j y, xup_j x]
  refine ⟨_, rfl, by rw [b2, a2], fun c c1 c2 c3 => ?_, fun j hj => ?_, ?_, ?_, ?_, ?_, ?_, ?_⟩
  · dsimp only; rw [fr c c1]; exact ec c c1 c2 c3
  · dsimp only; rw [fj j (by omega) (by omega), e94]; exact jj j (by omega)
  · unfold MT
    dsimp only
    rw [fr 114 (by omega), fr 115 (by omega), ec 114 (by omega) (by omega) (by omega), ec 115 (by omega) (by omega) (by omega)]
    exact h1
  · dsimp only; rw [xup_j (by omega), xup_eq, if_pos rfl, e94, jj 24 (by omega), h2, nI_s]; simp [keepA]
  · simp [keepA]; omega
  · dsimp only; rw [xup_eq, if_pos rfl, xup_j (by omega), e94, jj 25 (by omega), h4]; rfl
  · intro i r' hr'
    have hi : i < A.2.1.length + 1 := by have := (List.getElem?_eq_some_iff.mp hr').1; simpa [keepA] using this
    have cg : ∀ r'', MOr s i r'' → MOr (xup (xup s2.1 94 24 (s2.1 94 24 + 1)) 94 25 (xup s2.1 94 24 (s2.1 94 24 + 1) 94 25 + 1), s2.2) i r'' := fun r'' h => MOr_congr h (fun c x y => by dsimp only; rw [fr c (by omega)]; exact ec c (by omega) (by omega) (by omega))
    by_cases e : i = A.2.1.length
    · have : r' = r := by
        rw [e] at hr'; simp [keepA] at hr'; exact hr'.symm
      rw [this]; apply cg; rw [e]; exact ⟨h7, h8, h9, h10, h11⟩
    · have : A.2.1[i]? = some r' := by
        rw [← hr']; show _ = (A.2.1 ++ [r])[i]?
        rw [List.getElem?_append_left (by omega)]
      exact cg r' (h5 i r' this)
  · show MLa _ r
    refine ⟨?_, ?_, ?_, ?_, ?_⟩
    · dsimp only; rw [fj 26 (by omega) (by omega), e94]; exact j26
    · dsimp only; rw [fj 27 (by omega) (by omega), e94]; exact j27
    · dsimp only; rw [fj 28 (by omega) (by omega), e94]; exact j28
    · dsimp only; rw [fr 112 (by omega), fr 113 (by omega)]
      refine ML_f a6 (b4 0 (by omega)) (fun k hk => ?_) hr.1
      show s2.1 112 k = s1.1 112 (24 * 0 + k)
      rw [b5 k (by omega), show 24 * 0 + k = k by omega]
    · dsimp only; rw [fr 112 (by omega), fr 113 (by omega)]
      exact b6
end
