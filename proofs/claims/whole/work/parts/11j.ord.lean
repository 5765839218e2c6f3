/-! what is kept stays in order -/
def ROK (E : LEnv) (r : Ord) : Prop := r.1 < eT E ∧ (r.2.2.2.1.Nodup ∧ ∀ x ∈ r.2.2.2.1, x < eT E) ∧ (r.2.2.2.2.Nodup ∧ ∀ x ∈ r.2.2.2.2, x < eT E)
def AOK (E : LEnv) (A : Ab) : Prop := TOK E A.1 ∧ (∀ r ∈ A.2.1, ROK E r) ∧ ROK E A.2.2.1
theorem AOK_keep {E : LEnv} {A : Ab} {T : Nat → List Nat} {r : Ord} (h : AOK E A) (hT : TOK E T) (hr : ROK E r) : AOK E (keepA A T r) := by
  refine ⟨hT, fun r' hr' => ?_, hr⟩
  have hr' : r' ∈ A.2.1 ++ [r] := hr'
  rcases List.mem_append.mp hr' with q | q
  · exact h.2.1 r' q
  · rw [List.mem_singleton.mp q]; exact hr
theorem keepA_T (A : Ab) (T : Nat → List Nat) (r : Ord) : (keepA A T r).1 = T := rfl
theorem keepA_n (A : Ab) (T : Nat → List Nat) (r : Ord) : (keepA A T r).2.1.length = A.2.1.length + 1 := by simp [keepA]
section
variable {s : St} {E : LEnv} {T : Nat → List Nat} {o a b actor : Nat}
theorem sCmds_ok (hE : EOK E) (hactor : actor < eT E) : ∀ f A ad a, AOK E A → ad.Nodup → (∀ x ∈ ad, x < eT E) → AOK E (sCmds E actor f A ad a).1 ∧ ∀ b, (sCmds E actor f A ad a).2 = .ok b → a < b ∧ b ≤ em E ∧ (ek E b = 28 ∨ ek E b = 22 ∨ ek E b = 4) := by
  intro f
  induction f with
  | zero => intro A ad a hA _ _; exact ⟨hA, fun b h => by cases h⟩
  | succ f ih =>
    intro A ad a hA had hlt
    unfold sCmds
    cases hc : sCmd E A.1 A.2.1.length actor a with
    | error e => exact ⟨hA, fun b h => by cases h⟩
    | ok q =>
      obtain ⟨c, b⟩ := q
      obtain ⟨q1, q2, q3, q4, q5, q6⟩ := sCmd_ok hE hA.1 hactor hc
      have hT : TOK E (learn E (learn E (learn E A.1 ad) c.2.2.1) c.2.2.2) := TOK_learn hE (TOK_learn hE (TOK_learn hE hA.1 had hlt) q5.1 q5.2) q6.1 q6.2
      have hK := AOK_keep (r := (actor, c)) hA hT ⟨hactor, q5, q6⟩
      dsimp only
      by_cases ea : ek E b = 3 ∧ ek E (b + 1) = 24
      · rw [if_pos ea]
        obtain ⟨p1, p2⟩ := ih _ [] (b + 1) hK List.nodup_nil (by simp)
        exact ⟨p1, fun b' h => by have := p2 b' h; exact ⟨by omega, this.2⟩⟩
      · rw [if_neg ea]
        by_cases ee : ek E b = 28 ∨ ek E b = 22 ∨ ek E b = 4
        · rw [if_pos ee]
          exact ⟨hK, fun b' h => by cases h; exact ⟨q3, q4, ee⟩⟩
        · rw [if_neg ee]
          exact ⟨hA, fun b h => by cases h⟩
theorem sAgain_ok {A : Ab} (hE : EOK E) (ha : ek E a ≠ 28) (hA : AOK E A) : AOK E (sAgain E A a).1 ∧ ∀ b, (sAgain E A a).2 = .ok b → a < b ∧ b ≤ em E ∧ (ek E b = 28 ∨ ek E b = 22 ∨ ek E b = 4) := by
  have ham := em_lt hE ha
  unfold sAgain
  by_cases h1 : A.2.2.2 = 0
  · rw [if_pos h1]; exact ⟨hA, fun b h => by cases h⟩
  rw [if_neg h1]
  by_cases h2 : (A.2.2.1.1 :: (A.2.2.1.2.2.2.1 ++ A.2.2.1.2.2.2.2)).all (eS E) = false
  · rw [if_pos h2]; exact ⟨hA, fun b h => by cases h⟩
  rw [if_neg h2]
  by_cases h3 : A.2.1.length = 10
  · rw [if_pos h3]; exact ⟨hA, fun b h => by cases h⟩
  rw [if_neg h3]
  by_cases h4 : ek E (a + 1) = 28 ∨ ek E (a + 1) = 22 ∨ ek E (a + 1) = 4
  · rw [if_pos h4]; exact ⟨AOK_keep hA hA.1 hA.2.2, fun b h => by cases h; exact ⟨by omega, by omega, h4⟩⟩
  · rw [if_neg h4]; exact ⟨hA, fun b h => by cases h⟩
theorem sWho_ok {A : Ab} {bh : Nat} (hE : EOK E) (hA : AOK E A) : AOK E (sWho E A a bh).1 ∧ ∀ b, (sWho E A a bh).2 = .ok b → a < b ∧ b ≤ em E ∧ (ek E b = 28 ∨ ek E b = 22 ∨ ek E b = 4) := by
  unfold sWho
  cases hi : sItem E A.1 0 a with
  | error e => exact ⟨hA, fun b h => by cases h⟩
  | ok q =>
    obtain ⟨l, b⟩ := q
    obtain ⟨q1, q2, q3, q4, q5⟩ := sItem_ok hE hA.1 hE.1 hi
    dsimp only
    match l, q3, q4, q5 with
    | [], q3, _, _ => exact absurd rfl q3
    | [x], _, _, q5 =>
      have hx : x < eT E := q5 x (by simp)
      dsimp only
      by_cases h1 : x = 0 ∨ ¬ (eK E x = 1 ∨ eK E x = 2)
      · rw [if_pos h1]; exact ⟨hA, fun b h => by cases h⟩
      rw [if_neg h1]
      by_cases h2 : ek E b = bh
      · rw [if_pos h2]
        obtain ⟨p1, p2⟩ := sCmds_ok hE hx 300 A [x] (b + 1) hA (by simp) (by simpa using hx)
        exact ⟨p1, fun b' h => by have := p2 b' h; exact ⟨by omega, this.2⟩⟩
      · rw [if_neg h2]; exact ⟨hA, fun b h => by cases h⟩
    | x :: y :: r, _, _, _ => exact ⟨hA, fun b h => by cases h⟩
theorem sOrd_ok {A : Ab} (hE : EOK E) (ha : ek E a ≠ 28) (hA : AOK E A) : AOK E (sOrd E A a).1 ∧ ∀ b, (sOrd E A a).2 = .ok b → a < b ∧ b ≤ em E ∧ (ek E b = 28 ∨ ek E b = 22 ∨ ek E b = 4) := by
  unfold sOrd
  by_cases h1 : ek E a = 7
  · rw [if_pos h1]; exact sAgain_ok hE ha hA
  rw [if_neg h1]
  by_cases h2 : ek E a = 24
  · rw [if_pos h2]; exact sCmds_ok hE hE.1 300 A [] a hA List.nodup_nil (by simp)
  rw [if_neg h2]
  by_cases h3 : ek E a = 5
  · rw [if_pos h3]
    obtain ⟨p1, p2⟩ := sWho_ok (a := a + 1) (bh := 6) hE hA
    exact ⟨p1, fun b' h => by have := p2 b' h; exact ⟨by omega, this.2⟩⟩
  · rw [if_neg h3]; exact sWho_ok hE hA
theorem sSkip_le (hE : EOK E) : ∀ f a, a ≤ em E → a ≤ sSkip E f a ∧ sSkip E f a ≤ em E ∧ (em E < f + a → ¬ (ek E (sSkip E f a) = 22 ∨ ek E (sSkip E f a) = 4)) := by
  intro f
  induction f with
  | zero => intro a h; exact ⟨Nat.le_refl _, h, fun q => by omega⟩
  | succ f ih =>
    intro a h
    unfold sSkip
    by_cases e : ek E a = 22 ∨ ek E a = 4
    · rw [if_pos e]
      have := em_lt hE (a := a) (by omega)
      obtain ⟨q1, q2, q3⟩ := ih (a + 1) (by omega)
      exact ⟨by omega, q2, fun q => q3 (by omega)⟩
    · rw [if_neg e]; exact ⟨Nat.le_refl _, h, fun _ => e⟩
/-! the class's orders -/
def FR (s s' : St) : Prop := s'.2 = s.2 ∧ ∀ c, (c ≤ 14 ∨ c = 24 ∨ (81 ≤ c ∧ c ≤ 84) ∨ 94 ≤ c) → s'.1 c = s.1 c
theorem FR_trans {s1 s2 s3 : St} (h : FR s1 s2) (h' : FR s2 s3) : FR s1 s3 := ⟨h'.1.trans h.1, fun c q => (h'.2 c q).trans (h.2 c q)⟩
def FolO (s : St) (F : Option (Int32 × St)) (R : Ab × Except (Nat × Nat) Nat) : Prop :=
  (∀ A' e, R = (A', .error e) → ∃ s', F = some (0, s') ∧ FR s s' ∧ CA s' A' ∧ s'.1 80 9 = nI e.1 ∧ s'.1 80 10 = nI e.2) ∧
  (∀ A' b, R = (A', .ok b) → ∃ s', F = some (1, s') ∧ FR s s' ∧ CA s' A' ∧ s'.1 80 8 = nI b ∧ s'.1 80 9 = s.1 80 9)
theorem FolO_of {s1 : St} {F : Option (Int32 × St)} {R : Ab × Except (Nat × Nat) Nat} (h1 : FR s s1) (h9 : s1.1 80 9 = s.1 80 9) (h : FolO s1 F R) : FolO s F R := by
  refine ⟨fun A' e he => ?_, fun A' b he => ?_⟩
  · obtain ⟨s', q1, q2, q3⟩ := h.1 A' e he
    exact ⟨s', q1, FR_trans h1 q2, q3⟩
  · obtain ⟨s', q1, q2, q3, q4, q5⟩ := h.2 A' b he
    exact ⟨s', q1, FR_trans h1 q2, q3, q4, q5.trans h9⟩
theorem FolO_er {F : Option (Int32 × St)} {A : Ab} {e : Nat × Nat} {s' : St} (hF : F = some (0, s')) (h1 : FR s s') (hA : CA s' A) (h9 : s'.1 80 9 = nI e.1) (h10 : s'.1 80 10 = nI e.2) : FolO s F (A, .error e) := by
  refine ⟨fun A' e' he => ?_, fun A' b he => by cases he⟩
  cases he
  exact ⟨s', hF, h1, hA, h9, h10⟩
theorem and_k (hE : EOK E) (hs : CE s E) (ha : s.1 80 8 = nI a) (hal : a ≤ 200) : F_X2_isCommandAnd s = some (if ek E a = 3 ∧ ek E (a + 1) = 24 then 1 else 0, s) := by
  unfold F_X2_isCommandAnd
  rw [ha, kindAt_k hE hs (by omega)]
  simp only [Option.bind_some]
  by_cases e3 : ek E a = 3
  · rw [if_pos (show nI (ek E a) = 3 by rw [e3]; rfl), ha, nI_s, kindAt_k hE hs (by omega)]
    simp only [Option.bind_some]
    by_cases e24 : ek E (a + 1) = 24
    · rw [if_pos (show nI (ek E (a + 1)) = 24 by rw [e24]; rfl), if_pos ⟨e3, e24⟩]
    · rw [if_neg (show ¬ nI (ek E (a + 1)) = 24 from nI_ne (b := 24) e24 (by have := ek_lt hE (a + 1); omega) (by omega)), if_neg (fun q => e24 q.2)]
  · rw [if_neg (show ¬ nI (ek E a) = 3 from nI_ne (b := 3) e3 (by have := ek_lt hE a; omega) (by omega)), if_neg (fun q => e3 q.1)]
theorem oend_k (hE : EOK E) (hs : CE s E) (ha : s.1 80 8 = nI a) (hal : a ≤ 201) : F_X2_isOrderEnd s = some (if ek E a = 28 ∨ ek E a = 22 ∨ ek E a = 4 then 1 else 0, s) := by
  unfold F_X2_isOrderEnd
  rw [ha, kindAt_k hE hs (by omega)]
  simp only [Option.bind_some]
  by_cases e28 : ek E a = 28
  · rw [if_pos (show nI (ek E a) = 28 by rw [e28]; rfl), if_pos (Or.inl e28)]
  · rw [if_neg (show ¬ nI (ek E a) = 28 from nI_ne (b := 28) e28 (by have := ek_lt hE a; omega) (by omega)), isStop_k _ (ek_lt hE a)]
    simp only [Option.bind_some]
    by_cases e : ek E a = 22 ∨ ek E a = 4
    · rw [if_pos e, if_neg (by decide), if_pos (Or.inr e)]
    · rw [if_neg e, if_pos rfl, if_neg (by omega)]
theorem FR_mis {s' : St} {e : Nat × Nat} (h : CEr s s' 86 e) : FR s s' := ⟨h.1, fun c q => h.2.1 c (by omega) (by omega) (by omega)⟩
theorem order36 (hE : EOK E) (hactor : actor < eT E) : ∀ f A ad a i (s : St), 10 < f + i → i ≤ A.2.1.length → CE s E → CA s A → AOK E A → CL s 92 ad → (∀ x ∈ ad, x < eT E) → s.1 80 8 = nI a → a ≤ em E → s.1 85 2 = nI actor → FolO s (L_X2_readOrder_36 f (nI i) s) (sCmds E actor f A ad a) := by
  have h200 := hE.2.2.2.2.2.1
  intro f
  induction f with
  | zero => intro A ad a i s h1 h2 hs hA; have := hA.2.2.1; omega
  | succ f ih =>
    intro A ad a i s h1 h2 hs hA hok had hlt ha ham hact
    have hn10 := hA.2.2.1
    unfold L_X2_readOrder_36 sCmds
    rw [if_neg (show ¬ (10 : Int32) < nI i from nI_nlt (a := 10) (by omega) (by omega))]
    obtain ⟨r1, r2⟩ := readCommand_k hE hs hA.1 hok.1 ha ham hA.2.1 hn10 hact hactor
    cases hc : sCmd E A.1 A.2.1.length actor a with
    | error e =>
      obtain ⟨s', q1, q2, q3, q4, q5⟩ := r1 e hc
      rw [q1]
      exact FolO_er rfl ⟨q2, fun c q => q3 c (by omega) (by omega)⟩ (CA_congr hA (fun c q => q3 c (by omega) (by omega))) q4 q5
    | ok q =>
      obtain ⟨c, b⟩ := q
      obtain ⟨s', q1, q2, q3, q4, q5, q6, q7, q8, q9, q10⟩ := r2 c b hc
      obtain ⟨k1, k2, k3, k4, k5, k6⟩ := sCmd_ok hE hok.1 hactor hc
      rw [q1]
      simp only [Option.bind_some, if_neg (show ¬ (1 : Int32) = 0 by decide)]
      have hs' : CE s' E := CE_congr hs (fun c q => q3 c (by omega) (by omega))
      have hA' : CA s' A := CA_congr hA (fun c q => q3 c (by omega) (by omega))
      have had' : CL s' 92 ad := CL_congr had (q3 92 (by omega) (by omega)) (q3 93 (by omega) (by omega))
      have hr : CO s' 85 (actor, c) := ⟨by rw [q6]; exact hact, q7, q8, q9, q10⟩
      have hFR : FR s s' := ⟨q2, fun c q => q3 c (by omega) (by omega)⟩
      rw [and_k hE hs' q4 (by omega)]
      simp only [Option.bind_some]
      have hkd : A.2.1.length < 10 := by omega
      obtain ⟨I1, d1, d2, d3, d4⟩ := keepDraft_k hE hs' hA' hr had' hkd hlt k5.2 k6.2
      have hFR1 : FR s' (I1, s'.2) := ⟨rfl, fun c q => d4 c (by omega) (by omega) (by omega)⟩
      have e80 : I1 80 = s'.1 80 := d4 80 (by omega) (by omega) (by omega)
      apply FolO_of hFR q5
      by_cases ea : ek E b = 3 ∧ ek E (b + 1) = 24
      · rw [if_pos ea, if_neg (by decide), if_pos ea, d1]
        simp only [Option.bind_some, e80, q4, nI_s]
        have hbm := em_lt hE (a := b) (by omega)
        have hT : TOK E (learn E (learn E (learn E A.1 ad) c.2.2.1) c.2.2.2) := TOK_learn hE (TOK_learn hE (TOK_learn hE hok.1 had.2.2.1 hlt) k5.1 k5.2) k6.1 k6.2
        apply FolO_of (s := s') (s1 := (xup I1 80 8 (nI (b + 1)), s'.2)) ⟨rfl, fun c q => by dsimp only; rw [xup_ne (by omega)]; exact d4 c (by omega) (by omega) (by omega)⟩ (by dsimp only; rw [xup_j (by omega), e80])
        exact ih _ [] (b + 1) (i + 1) (xup I1 80 8 (nI (b + 1)), s'.2) (by omega) (by rw [keepA_n]; omega) (CE_congr hs' (fun c q => by dsimp only; rw [xup_ne (by omega)]; exact d4 c (by omega) (by omega) (by omega))) (CA_congr d2 (fun c q => by dsimp only; rw [xup_ne (by omega)])) (AOK_keep hok hT ⟨hactor, k5, k6⟩) (CL_congr d3 (by dsimp only; rw [xup_ne (by omega)]) (by dsimp only; rw [xup_ne (by omega)])) (by simp) (by dsimp only; rw [xup_eq, if_pos rfl]) (by omega) (by dsimp only; rw [xup_ne (by omega), d4 85 (by omega) (by omega) (by omega), q6]; exact hact)
      · rw [if_neg ea, if_pos rfl, if_neg ea, oend_k hE hs' q4 (by omega)]
        simp only [Option.bind_some]
        by_cases ee : ek E b = 28 ∨ ek E b = 22 ∨ ek E b = 4
        · rw [if_pos ee, if_neg (by decide), if_pos ee, d1]
          refine ⟨fun A' e he => (by cases he), fun A' b' he => ?_⟩
          cases he
          exact ⟨_, rfl, hFR1, d2, by dsimp only; rw [e80]; exact q4, by dsimp only; rw [e80]⟩
        · rw [if_neg ee, if_pos rfl, if_neg ee]
          obtain ⟨s6, m1, m2⟩ := misp_k hE hs' q4 (by omega) 86
          exact FolO_er (if01 (P := True) m1 (Or.inl rfl)) (FR_mis m2) (CA_congr hA' (fun c q => m2.2.1 c (by omega) (by omega) (by omega))) m2.2.2.1 m2.2.2.2
end
