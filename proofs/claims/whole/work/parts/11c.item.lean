theorem isFT_k {s : St} : ∀ k, k < 29 → F_X2_isFromTable (nI k) s = some (if (8 ≤ k ∧ k ≤ 11) ∨ (15 ≤ k ∧ k ≤ 17) then 1 else 0, s)
  | 0, _ => rfl
  | 1, _ => rfl
  | 2, _ => rfl
  | 3, _ => rfl
  | 4, _ => rfl
  | 5, _ => rfl
  | 6, _ => rfl
  | 7, _ => rfl
  | 8, _ => rfl
  | 9, _ => rfl
  | 10, _ => rfl
  | 11, _ => rfl
  | 12, _ => rfl
  | 13, _ => rfl
  | 14, _ => rfl
  | 15, _ => rfl
  | 16, _ => rfl
  | 17, _ => rfl
  | 18, _ => rfl
  | 19, _ => rfl
  | 20, _ => rfl
  | 21, _ => rfl
  | 22, _ => rfl
  | 23, _ => rfl
  | 24, _ => rfl
  | 25, _ => rfl
  | 26, _ => rfl
  | 27, _ => rfl
  | 28, _ => rfl
  | n + 29, h => by omega
theorem isPron_k {s : St} : ∀ k, k < 29 → F_X2_isPronoun (nI k) s = some (if 8 ≤ k ∧ k ≤ 14 then 1 else 0, s)
  | 0, _ => rfl
  | 1, _ => rfl
  | 2, _ => rfl
  | 3, _ => rfl
  | 4, _ => rfl
  | 5, _ => rfl
  | 6, _ => rfl
  | 7, _ => rfl
  | 8, _ => rfl
  | 9, _ => rfl
  | 10, _ => rfl
  | 11, _ => rfl
  | 12, _ => rfl
  | 13, _ => rfl
  | 14, _ => rfl
  | 15, _ => rfl
  | 16, _ => rfl
  | 17, _ => rfl
  | 18, _ => rfl
  | 19, _ => rfl
  | 20, _ => rfl
  | 21, _ => rfl
  | 22, _ => rfl
  | 23, _ => rfl
  | 24, _ => rfl
  | 25, _ => rfl
  | 26, _ => rfl
  | 27, _ => rfl
  | 28, _ => rfl
  | n + 29, h => by omega
theorem isWhose_k {s : St} : ∀ k, k < 29 → F_X2_isWhose (nI k) s = some (if 15 ≤ k ∧ k ≤ 18 then 1 else 0, s)
  | 0, _ => rfl
  | 1, _ => rfl
  | 2, _ => rfl
  | 3, _ => rfl
  | 4, _ => rfl
  | 5, _ => rfl
  | 6, _ => rfl
  | 7, _ => rfl
  | 8, _ => rfl
  | 9, _ => rfl
  | 10, _ => rfl
  | 11, _ => rfl
  | 12, _ => rfl
  | 13, _ => rfl
  | 14, _ => rfl
  | 15, _ => rfl
  | 16, _ => rfl
  | 17, _ => rfl
  | 18, _ => rfl
  | 19, _ => rfl
  | 20, _ => rfl
  | 21, _ => rfl
  | 22, _ => rfl
  | 23, _ => rfl
  | 24, _ => rfl
  | 25, _ => rfl
  | 26, _ => rfl
  | 27, _ => rfl
  | 28, _ => rfl
  | n + 29, h => by omega
theorem pnOf_k {s : St} : ∀ k, k < 29 → F_X2_pronounOf (nI k) s = some (nI (pnOf k), s)
  | 0, _ => rfl
  | 1, _ => rfl
  | 2, _ => rfl
  | 3, _ => rfl
  | 4, _ => rfl
  | 5, _ => rfl
  | 6, _ => rfl
  | 7, _ => rfl
  | 8, _ => rfl
  | 9, _ => rfl
  | 10, _ => rfl
  | 11, _ => rfl
  | 12, _ => rfl
  | 13, _ => rfl
  | 14, _ => rfl
  | 15, _ => rfl
  | 16, _ => rfl
  | 17, _ => rfl
  | 18, _ => rfl
  | 19, _ => rfl
  | 20, _ => rfl
  | 21, _ => rfl
  | 22, _ => rfl
  | 23, _ => rfl
  | 24, _ => rfl
  | 25, _ => rfl
  | 26, _ => rfl
  | 27, _ => rfl
  | 28, _ => rfl
  | n + 29, h => by omega
theorem isStop_k {s : St} : ∀ k, k < 29 → F_X2_isStop (nI k) s = some (if k = 22 ∨ k = 4 then 1 else 0, s)
  | 0, _ => rfl
  | 1, _ => rfl
  | 2, _ => rfl
  | 3, _ => rfl
  | 4, _ => rfl
  | 5, _ => rfl
  | 6, _ => rfl
  | 7, _ => rfl
  | 8, _ => rfl
  | 9, _ => rfl
  | 10, _ => rfl
  | 11, _ => rfl
  | 12, _ => rfl
  | 13, _ => rfl
  | 14, _ => rfl
  | 15, _ => rfl
  | 16, _ => rfl
  | 17, _ => rfl
  | 18, _ => rfl
  | 19, _ => rfl
  | 20, _ => rfl
  | 21, _ => rfl
  | 22, _ => rfl
  | 23, _ => rfl
  | 24, _ => rfl
  | 25, _ => rfl
  | 26, _ => rfl
  | 27, _ => rfl
  | 28, _ => rfl
  | n + 29, h => by omega
/-- the class's cells hold the environment -/
def CE (s : St) (E : LEnv) : Prop := s.1 1 3 = nI (eT E) ∧ (∀ t, t < eT E → s.1 2 t = nI (eK E t)) ∧ (∀ t, t < eT E → bt (s.1 1 2) t = eS E t) ∧ (∀ t, t < eT E → s.1 3 t = if eO E t = 99 then -4 else nI (eO E t)) ∧
  s.1 4 7 = nI (eW E) ∧ (∀ w t, w < eW E → t < 24 → bt (s.1 9 w) t = eN E w t ∧ bt (s.1 10 w) t = eA E w t) ∧ (∀ w, w < eW E → s.1 8 w = nI (eF E w)) ∧
  s.1 81 3 = nI (em E) ∧ (∀ i, i < em E → s.1 82 i = nI (ek E i)) ∧ (∀ i, 23 ≤ ek E i → ek E i ≤ 25 → s.1 83 i = nI (ew E i))
theorem CE_congr {s s' : St} {E : LEnv} (h : CE s E) (e : ∀ c, c ≤ 11 ∨ (81 ≤ c ∧ c ≤ 84) → s'.1 c = s.1 c) : CE s' E := by
  unfold CE at h ⊢
  rw [e 1 (by omega), e 2 (by omega), e 3 (by omega), e 4 (by omega), e 8 (by omega), e 9 (by omega), e 10 (by omega), e 81 (by omega), e 82 (by omega), e 83 (by omega)]
  exact h
def CT (s : St) (T : Nat → List Nat) : Prop := ∀ p, p < 4 → CL s (15 + 2 * p) (T p)
theorem CT_congr {s s' : St} {T : Nat → List Nat} (h : CT s T) (e : ∀ c, 15 ≤ c → c ≤ 22 → s'.1 c = s.1 c) : CT s' T := fun p hp => CL_congr (h p hp) (e _ (by omega) (by omega)) (e _ (by omega) (by omega))
/-- a piece of reading that went well, with the list o, up to the token a -/
def COk (s s' : St) (o a : Nat) : Prop := s'.2 = s.2 ∧ (∀ c, c ≠ 80 → c ≠ o → c ≠ o + 1 → s'.1 c = s.1 c) ∧ s'.1 80 8 = nI a ∧ s'.1 80 9 = s.1 80 9
/-- a piece of reading that met a fault -/
def CEr (s s' : St) (o : Nat) (e : Nat × Nat) : Prop := s'.2 = s.2 ∧ (∀ c, c ≠ 80 → c ≠ o → c ≠ o + 1 → s'.1 c = s.1 c) ∧ s'.1 80 9 = nI e.1 ∧ s'.1 80 10 = nI e.2
section
variable {s : St} {E : LEnv} {T : Nat → List Nat} {o a b : Nat}
theorem ek_lt (hE : EOK E) (a : Nat) : ek E a < 29 := by
  rcases Nat.lt_or_ge a (em E) with q | q
  · have := hE.2.2.2.2.2.2.2.1 a q; omega
  · rw [hE.2.2.2.2.2.2.1 a q]; omega
theorem kindAt_k (hE : EOK E) (hs : CE s E) (ha : a < 2 ^ 20) : F_X7_kindAt (nI a) s = some (nI (ek E a), s) := by
  obtain ⟨-, -, -, -, -, -, -, h1, h2, -⟩ := hs
  have h200 := hE.2.2.2.2.2.1
  unfold F_X7_kindAt
  rw [h1, if_neg (nI_pos (by omega))]
  rcases Nat.lt_or_ge a (em E) with q | q
  · rw [if_neg (nI_ge q (by omega)), if_neg (grd (n := 200) (by omega) (by omega)), nI_clamp (by omega), h2 a q]
  · rw [if_pos (nI_le q (by omega)), hE.2.2.2.2.2.2.1 a q]; rfl
theorem wordAt_k (hE : EOK E) (hs : CE s E) (h1 : 23 ≤ ek E a) (h2 : ek E a ≤ 25) : F_X7_wordAt (nI a) s = some (nI (ew E a), s) := by
  obtain ⟨-, -, -, -, -, -, -, g1, -, g2⟩ := hs
  have h200 := hE.2.2.2.2.2.1
  have ha := em_lt hE (a := a) (by omega)
  unfold F_X7_wordAt
  rw [g1, if_neg (nI_pos (by omega)), if_neg (nI_ge ha (by omega)), if_neg (grd (n := 200) (by omega) (by omega)), nI_clamp (by omega), g2 a h1 h2]
/-- one step on -/
theorem step80 (ha : s.1 80 8 = nI a) : xup s.1 80 8 (s.1 80 8 + 1) 80 8 = nI (a + 1) := by rw [xup_eq, if_pos rfl, ha, nI_s]
theorem fail_k (f t : Int32) : F_X2_fail f t s = some (0, (xup (xup s.1 80 9 f) 80 10 t, s.2)) := rfl
theorem fail_er {f t : Nat} (o : Nat) : CEr s (xup (xup s.1 80 9 (nI f)) 80 10 (nI t), s.2) o (f, t) := by
  refine ⟨rfl, fun c h _ _ => ?_, ?_, ?_⟩
  · dsimp only; rw [xup_ne h, xup_ne h]
  · dsimp only; rw [xup_j (by omega), xup_eq]; rfl
  · dsimp only; rw [xup_eq]; rfl
theorem nI_ne {a b : Nat} (h : a ≠ b) (ha : a < 2 ^ 31) (hb : b < 2 ^ 31) : ¬ nI a = nI b := fun q => h (nI_inj ha hb q)
theorem misp_k (hE : EOK E) (hs : CE s E) (ha : s.1 80 8 = nI a) (hl : a < 2 ^ 20) (o : Nat) : ∃ s', F_X2_failMisplaced s = some (0, s') ∧ CEr s s' o (mis E a) := by
  have hk := ek_lt hE a
  have h27 : ek E a ≠ 27 := by
    rcases Nat.lt_or_ge a (em E) with q | q
    · have := hE.2.2.2.2.2.2.2.1 a q; omega
    · rw [hE.2.2.2.2.2.2.1 a q]; omega
  unfold F_X2_failMisplaced mis
  rw [ha, kindAt_k hE hs hl]
  simp only [Option.bind_some]
  by_cases e : ek E a = 26
  · rw [if_pos (show nI (ek E a) = 26 by rw [e]; rfl), if_pos e, ha]
    exact ⟨_, rfl, fail_er o⟩
  · rw [if_neg (show ¬ nI (ek E a) = 26 from nI_ne (b := 26) e (by omega) (by omega)), if_neg (show ¬ nI (ek E a) = 27 from nI_ne (b := 27) h27 (by omega) (by omega)), if_neg e, ha]
    exact ⟨_, rfl, fail_er o⟩
theorem fits_end (b t : Nat) (E : LEnv) : ∀ g, fits E b t g b = true
  | 0 => rfl
  | g + 1 => by unfold fits; rw [if_neg (by omega)]
theorem names7 (hE : EOK E) {l3 : Int32} (hbm : b ≤ em E) (hb : ek E b ≠ 23) : ∀ f a i g (X : Int32) (s : St), a ≤ b → (∀ j, a ≤ j → j < b → ek E j = 23) → b < f + a → b ≤ g + a → i ≤ a → CE s E → s.1 80 8 = nI a →
    ∃ X' I', L_X2_readNames_7 o f l3 X (nI i) s = some (X', (I', s.2)) ∧ (∀ t, t < 24 → bt X' t = (bt X t && fits E b t g a)) ∧ (∀ c, c ≠ 80 → I' c = s.1 c) ∧ (∀ j, j ≠ 8 → I' 80 j = s.1 80 j) ∧ I' 80 8 = nI b := by
  have h200 := hE.2.2.2.2.2.1
  intro f
  induction f with
  | zero => intro a i g X s h1 h2 h3; omega
  | succ f ih =>
    intro a i g X s h1 hall h3 h4 h5 hs ha
    unfold L_X2_readNames_7
    by_cases e : a = b
    · subst e
      refine ⟨X, s.1, ?_, fun t ht => by rw [fits_end]; simp, fun _ _ => rfl, fun _ _ => rfl, ha⟩
      by_cases q : (200 : Int32) ≤ nI i
      · rw [if_pos q]
      · rw [if_neg q, ha, kindAt_k hE hs (by omega)]
        simp only [Option.bind_some]
        rw [if_neg (show ¬ nI (ek E a) = 23 from nI_ne (b := 23) hb (by have := ek_lt hE a; omega) (by omega))]
    · have hk := hall a (Nat.le_refl _) (by omega)
      have hw : ew E a < eW E := hE.2.2.2.2.2.2.2.2.1 a (by omega) (by omega)
      have h60 := hE.2.2.2.2.2.2.2.2.2.1
      rw [if_neg (show ¬ (200 : Int32) ≤ nI i from nI_ge (b := 200) (by omega) (by omega)), ha, kindAt_k hE hs (by omega)]
      simp only [Option.bind_some]
      rw [if_pos (show nI (ek E a) = 23 by rw [hk]; rfl), ha, wordAt_k hE hs (by omega) (by omega)]
      simp only [Option.bind_some, ha, xup_eq, if_true, nI_s]
      have hs' : CE (xup s.1 80 8 (nI (a + 1)), s.2) E := CE_congr hs (fun c q => by dsimp only; rw [xup_ne (by omega)])
      rw [kindAt_k hE hs' (by omega)]
      simp only [Option.bind_some]
      rw [nounsOf_k hs'.2.2.2.2.1 h60 hw]
      simp only [Option.bind_some]
      rw [adjsOf_k hs'.2.2.2.2.1 h60 hw]
      simp only [Option.bind_some]
      have hbits := fun t ht => hs'.2.2.2.2.2.1 (ew E a) t hw ht
      obtain ⟨g', rfl⟩ : ∃ g', g = g' + 1 := ⟨g - 1, by omega⟩
      have hfit : ∀ t, fits E b t (g' + 1) a = ((if a + 1 = b then eN E (ew E a) t else (eN E (ew E a) t || eA E (ew E a) t)) && fits E b t g' (a + 1)) := by
        intro t; conv => lhs; unfold fits
        rw [if_pos (show a < b by omega)]
      have ek23 : nI (ek E (a + 1)) = 23 ↔ a + 1 ≠ b := by
        constructor
        · intro q e2; rw [e2] at q; exact hb (nI_inj (b := 23) (by have := ek_lt hE b; omega) (by omega) q)
        · intro q; rw [hall (a + 1) (by omega) (by omega)]; rfl
      by_cases e2 : a + 1 = b
      · rw [if_neg (fun q => (ek23.mp q) e2)]
        obtain ⟨X', I', p1, p2, p3, p4, p5⟩ := ih (a + 1) (i + 1) g' (X &&& ((xup s.1 80 8 (nI (a + 1))) 9 (ew E a) ||| 0)) (xup s.1 80 8 (nI (a + 1)), s.2) (by omega) (fun j x y => hall j (by omega) y) (by omega) (by omega) (by omega) hs' (by dsimp only; rw [xup_eq]; rfl)
        refine ⟨X', I', p1, fun t ht => ?_, fun c hc => ?_, fun j hj => ?_, p5⟩
        · rw [p2 t ht, hfit t, b_and, b_or, b_0, (hbits t ht).1, if_pos e2]; simp [Bool.and_assoc]
        · rw [p3 c hc]; dsimp only; rw [xup_ne hc]
        · rw [p4 j hj]; dsimp only; rw [xup_j hj]
      · rw [if_pos (ek23.mpr e2)]
        obtain ⟨X', I', p1, p2, p3, p4, p5⟩ := ih (a + 1) (i + 1) g' (X &&& ((xup s.1 80 8 (nI (a + 1))) 9 (ew E a) ||| (xup s.1 80 8 (nI (a + 1))) 10 (ew E a))) (xup s.1 80 8 (nI (a + 1)), s.2) (by omega) (fun j x y => hall j (by omega) y) (by omega) (by omega) (by omega) hs' (by dsimp only; rw [xup_eq]; rfl)
        refine ⟨X', I', p1, fun t ht => ?_, fun c hc => ?_, fun j hj => ?_, p5⟩
        · rw [p2 t ht, hfit t, b_and, b_or, (hbits t ht).1, (hbits t ht).2, if_neg e2]; simp [Bool.and_assoc]
        · rw [p3 c hc]; dsimp only; rw [xup_ne hc]
        · rw [p4 j hj]; dsimp only; rw [xup_j hj]
end
