/-- what is read when the table is ready, or is not asked -/
def sIt2 (E : LEnv) (T : Nat → List Nat) (actor a : Nat) : Except (Nat × Nat) (List Nat × Nat) :=
  if ek E a = 19 then (if allL E = [] then .error (4, a) else .ok (allL E, a + 1))
  else if ek E a < 8 ∨ 14 < ek E a ∨ (ek E a = 10 ∧ ek E (a + 1) = 23) then
    sNames E (ownP E T (ek E a)) (if ((15 ≤ ek E a ∧ ek E a ≤ 18) ∨ ek E a = 10) ∨ ek E a ≤ 2 then a + 1 else a)
  else .ok (if ek E a = 12 ∨ ek E a = 13 then [0] else if ek E a = 14 then [actor] else T (pnOf (ek E a)), a + 1)
section
variable {s : St} {E : LEnv} {T : Nat → List Nat} {o a b actor : Nat} {acc : List Nat}
/-- a function of the class follows what is asked -/
def Fol (s : St) (o : Nat) (acc : List Nat) (F : Option (Int32 × St)) (R : Except (Nat × Nat) (List Nat × Nat)) : Prop :=
  (∀ e, R = .error e → ∃ s', F = some (0, s') ∧ CEr s s' o e) ∧ (∀ l b, R = .ok (l, b) → ∃ s', F = some (1, s') ∧ COk s s' o b ∧ CL s' o (addAll acc l))
/-- a step on, in the class -/
theorem st80 (hs : CE s E) (ha : s.1 80 8 = nI a) (ho : CL s o acc) (h80 : o = 86 ∨ o = 88 ∨ o = 90 ∨ o = 92) : CE (xup s.1 80 8 (nI (a + 1)), s.2) E ∧ xup s.1 80 8 (nI (a + 1)) 80 8 = nI (a + 1) ∧ CL (xup s.1 80 8 (nI (a + 1)), s.2) o acc :=
  ⟨CE_congr hs (fun c q => by dsimp only; rw [xup_ne (by omega)]), by rw [xup_eq, if_pos rfl], CL_congr ho (by dsimp only; rw [xup_ne (by omega)]) (by dsimp only; rw [xup_ne (by omega)])⟩
theorem Fol_step {F : Option (Int32 × St)} {R : Except (Nat × Nat) (List Nat × Nat)} {x : Int32} (h80 : o = 86 ∨ o = 88 ∨ o = 90 ∨ o = 92) (h : Fol (xup s.1 80 8 x, s.2) o acc F R) : Fol s o acc F R := by
  refine ⟨fun e he => ?_, fun l b he => ?_⟩
  · obtain ⟨s', q1, q2, q3, q4, q5⟩ := h.1 e he
    exact ⟨s', q1, q2, fun c c1 c2 c3 => by rw [q3 c c1 c2 c3]; dsimp only; rw [xup_ne c1], q4, q5⟩
  · obtain ⟨s', q1, ⟨q2, q3, q4, q5⟩, q6⟩ := h.2 l b he
    exact ⟨s', q1, ⟨q2, fun c c1 c2 c3 => by rw [q3 c c1 c2 c3]; dsimp only; rw [xup_ne c1], q4, by rw [q5]; dsimp only; rw [xup_j (by omega)]⟩, q6⟩
theorem if01 {P : Prop} {x : Int32} {s' : St} {F : Option (Int32 × St)} (h : F = some (x, s')) (hx : x = 0 ∨ x = 1) : (F.bind fun q => if q.1 = 0 ∨ q.1 = 1 then some (q.1, q.2) else none) = some (x, s') := by
  rw [h]; simp only [Option.bind_some]; rw [if_pos hx]
theorem J84 {X : Int32} {ow : Nat → Bool} (hE : EOK E) (hs : CE s E) (ha : s.1 80 8 = nI a) (hal : a < 2 ^ 20) (hX : ∀ t, t < eT E → bt X t = (eS E t && ow t)) (ho : CL s o acc) (h80 : o = 86 ∨ o = 88 ∨ o = 90 ∨ o = 92) : Fol s o acc (J_X2_readItem_84 o X s) (sNames E ow a) := by
  unfold J_X2_readItem_84
  rw [ha, kindAt_k hE hs hal]
  simp only [Option.bind_some]
  by_cases hk : ek E a = 23
  · rw [if_pos (show nI (ek E a) = 23 by rw [hk]; rfl)]
    obtain ⟨h1, h2⟩ := readNames_k (ow := ow) hE hs ha hk hX ho h80
    refine ⟨fun e he => ?_, fun l b he => ?_⟩
    · obtain ⟨s', q1, q2⟩ := h1 e he
      exact ⟨s', if01 (P := True) q1 (Or.inl rfl), q2⟩
    · obtain ⟨s', q1, q2⟩ := h2 l b he
      exact ⟨s', if01 (P := True) q1 (Or.inr rfl), q2⟩
  · rw [if_neg (show ¬ nI (ek E a) = 23 from nI_ne (b := 23) hk (by have := ek_lt hE a; omega) (by omega))]
    obtain ⟨s', q1, q2⟩ := misp_k hE hs ha hal o
    refine ⟨fun e he => ?_, fun l b he => ?_⟩
    · unfold sNames at he; rw [if_neg hk] at he; cases he
      exact ⟨s', if01 (P := True) q1 (Or.inl rfl), q2⟩
    · unfold sNames at he; rw [if_neg hk] at he; cases he
theorem J78 {X : Int32} {ow : Nat → Bool} (hE : EOK E) (hs : CE s E) (ha : s.1 80 8 = nI a) (hal : a ≤ 200) (hX : ∀ t, t < eT E → bt X t = (eS E t && ow t)) (ho : CL s o acc) (h80 : o = 86 ∨ o = 88 ∨ o = 90 ∨ o = 92) : Fol s o acc (J_X2_readItem_78 o X s) (sNames E ow (a + 1)) := by
  obtain ⟨g1, g2, g3⟩ := st80 hs ha ho h80
  unfold J_X2_readItem_78
  simp only [ha, nI_s]
  exact Fol_step h80 (J84 hE g1 g2 (by omega) hX g3 h80)
/-- the names after his, its, their, my, her -/
theorem whoseN (hE : EOK E) (hs : CE s E) (hT : CT s T) (hTo : TOK E T) (ha : s.1 80 8 = nI a) (hal : a ≤ 200) (ho : CL s o acc) (h80 : o = 86 ∨ o = 88 ∨ o = 90 ∨ o = 92) (hw : (15 ≤ ek E a ∧ ek E a ≤ 18) ∨ ek E a = 10) : Fol s o acc (J_X2_readItem_53 o (nI (ek E a)) 1 s) (sNames E (ownP E T (ek E a)) (a + 1)) := by
  have hkl := ek_lt hE a
  have h24 := hE.2.1
  have hown : ∃ X : Int32, F_X2_ownersFor (nI (ek E a)) s = some (X, s) ∧ ∀ t, t < 24 → bt X t = (if ek E a = 18 then decide (t = 0) else decide (t ∈ T (pnOf (ek E a)))) := by
    unfold F_X2_ownersFor
    by_cases e : ek E a = 18
    · rw [if_pos (show nI (ek E a) = 18 by rw [e]; rfl)]
      refine ⟨_, rfl, fun t ht => ?_⟩
      rw [if_pos e, show (0 : Int32) = nI 0 from rfl, b_one 0 (by omega) t (by omega)]
    · rw [if_neg (show ¬ nI (ek E a) = 18 from nI_ne (b := 18) e (by omega) (by omega)), pnOf_k _ hkl]
      simp only [Option.bind_some]
      rw [mb_p _ (pn_lt _)]
      refine ⟨_, rfl, fun t ht => ?_⟩
      rw [if_neg e]
      exact (hT _ (pn_lt _)).2.2.2.2 t (by omega)
  obtain ⟨X, x1, x2⟩ := hown
  obtain ⟨r, r1, r2⟩ := owned (X := X) (l2 := 0) hE hs 300 0 0 (by omega) (by omega)
  rw [nI_0] at r1
  unfold J_X2_readItem_53
  rw [if_neg (by decide), x1]
  simp only [Option.bind_some, F_X6_ownedBy]
  rw [r1]
  simp only [Option.bind_some]
  unfold J_X2_readItem_68
  rw [if_neg (by decide)]
  apply J78 hE hs ha hal _ ho h80
  intro t ht
  rw [b_and, hs.2.2.1 t ht, r2 t (by omega), b_0]
  unfold ownP
  rw [if_pos hw]
  have hot := hE.2.2.2.2.1 t ht
  have h0 : 0 ≤ t ∧ t < eT E := ⟨by omega, ht⟩
  simp only [Bool.false_or, h0, and_self, decide_true, Bool.true_and]
  congr 1
  by_cases e99 : eO E t = 99
  · have n1 : ¬ 99 ∈ T (pnOf (ek E a)) := fun q => by have := (hTo _ (pn_lt (ek E a))).2 _ q; omega
    rw [e99]
    by_cases e : ek E a = 18 <;> simp [e, n1]
  · rw [x2 _ (by omega)]
    by_cases e : ek E a = 18 <;> simp [e, e99]
theorem J16 (hE : EOK E) (hs : CE s E) (hT : CT s T) (hTo : TOK E T) (ha : s.1 80 8 = nI a) (hal : a ≤ 200) (ho : CL s o acc) (h80 : o = 86 ∨ o = 88 ∨ o = 90 ∨ o = 92) (hact : s.1 85 2 = nI actor) (hactor : actor < eT E) : Fol s o acc (J_X2_readItem_16 o (nI (ek E a)) s) (sIt2 E T actor a) := by
  have hkl := ek_lt hE a
  have h24 := hE.2.1
  obtain ⟨g1, g2, g3⟩ := st80 hs ha ho h80
  unfold J_X2_readItem_16 sIt2
  by_cases e19 : ek E a = 19
  · rw [if_pos (show nI (ek E a) = 19 by rw [e19]; rfl), if_pos e19]
    obtain ⟨I', q1, q2, q3⟩ := readAll_loop (l2 := nI a) hE h80 300 0 0 acc (xup s.1 80 8 (nI (a + 1)), s.2) (by omega) (by omega) (by omega) g1 g3
    rw [nI_0, rest_0, Nat.zero_add] at q1
    rw [rest_0] at q2
    have hlen : (allL E).length ≤ 24 := pig 24 _ (range_ok _ _).1 (fun x hx => by have := (range_ok (fun t => eS E t && !(eK E t == 1 || eK E t == 2)) (eT E)).2 x hx; omega)
    have hF : F_X2_readAll o s = (if (0 : Int32) < nI (allL E).length then some (1, (I', s.2)) else some (0, (xup (xup I' 80 9 4) 80 10 (nI a), s.2))) := by
      unfold F_X2_readAll
      simp only [ha, nI_s]
      rw [q1]
      simp only [Option.bind_some, fail_k]
      rfl
    by_cases en : allL E = []
    · rw [if_pos en]
      refine ⟨fun e he => ?_, fun l b he => by cases he⟩
      cases he
      refine ⟨_, if01 (P := True) (hF.trans (if_neg (by rw [en]; decide))) (Or.inl rfl), rfl, fun c c1 c2 c3 => ?_, ?_, ?_⟩
      · dsimp only; rw [xup_ne c1, xup_ne c1, q3 c c2 c3]; dsimp only; rw [xup_ne c1]
      · dsimp only; rw [xup_j (by omega), xup_eq]; rfl
      · dsimp only; rw [xup_eq]; rfl
    · rw [if_neg en]
      refine ⟨fun e he => (by cases he), fun l b he => ?_⟩
      cases he
      have hpos : 0 < (allL E).length := List.length_pos_iff.mpr en
      refine ⟨_, if01 (P := True) (hF.trans (if_pos (nI_lt (a := 0) hpos (by omega)))) (Or.inr rfl), ⟨rfl, fun c c1 c2 c3 => ?_, ?_, ?_⟩, q2⟩
      · dsimp only; rw [q3 c c2 c3]; dsimp only; rw [xup_ne c1]
      · dsimp only; rw [q3 80 (by omega) (by omega)]; exact g2
      · dsimp only; rw [q3 80 (by omega) (by omega)]; dsimp only; rw [xup_j (by omega)]
  · rw [if_neg (show ¬ nI (ek E a) = 19 from nI_ne (b := 19) e19 (by omega) (by omega)), if_neg e19, isWhose_k _ hkl]
    simp only [Option.bind_some]
    have pron : 8 ≤ ek E a → ek E a ≤ 14 → Fol s o acc (J_X2_readItem_40 o (nI (ek E a)) s) (.ok (if ek E a = 12 ∨ ek E a = 13 then [0] else if ek E a = 14 then [actor] else T (pnOf (ek E a)), a + 1)) := by
      intro k1 k2
      unfold J_X2_readItem_40 J_X2_readItem_41
      rw [if_pos rfl, isPron_k _ hkl]
      simp only [Option.bind_some]
      rw [if_pos (show 8 ≤ ek E a ∧ ek E a ≤ 14 from ⟨k1, k2⟩), if_neg (by decide)]
      refine ⟨fun e he => (by cases he), fun l b he => ?_⟩
      cases he
      have one : ∀ x, x < 24 → ∃ I', F_X5_add o (nI x) (xup s.1 80 8 (nI (a + 1)), s.2) = some (I', s.2) ∧ COk s (I', s.2) o (a + 1) ∧ CL (I', s.2) o (addAll acc [x]) := by
        intro x hx
        obtain ⟨I', q1, q2, q3⟩ := add_k g3 hx
        refine ⟨I', q1, ⟨rfl, fun c c1 c2 c3 => ?_, ?_, ?_⟩, q2⟩
        · dsimp only; rw [q3 c c2 c3]; dsimp only; rw [xup_ne c1]
        · dsimp only; rw [q3 80 (by omega) (by omega)]; exact g2
        · dsimp only; rw [q3 80 (by omega) (by omega)]; dsimp only; rw [xup_j (by omega)]
      unfold F_X2_readPronoun
      simp only [ha, nI_s]
      by_cases e12 : ek E a = 12
      · obtain ⟨I', q1, q2⟩ := one 0 (by omega)
        rw [if_pos (show nI (ek E a) = 12 by rw [e12]; rfl), show (0 : Int32) = nI 0 from rfl, q1, if_pos (Or.inl e12)]
        exact ⟨_, rfl, q2⟩
      · rw [if_neg (show ¬ nI (ek E a) = 12 from nI_ne (b := 12) e12 (by omega) (by omega))]
        by_cases e13 : ek E a = 13
        · obtain ⟨I', q1, q2⟩ := one 0 (by omega)
          rw [if_pos (show nI (ek E a) = 13 by rw [e13]; rfl), show (0 : Int32) = nI 0 from rfl, q1, if_pos (Or.inr e13)]
          exact ⟨_, rfl, q2⟩
        · rw [if_neg (show ¬ nI (ek E a) = 13 from nI_ne (b := 13) e13 (by omega) (by omega)), if_neg (show ¬ (ek E a = 12 ∨ ek E a = 13) by omega)]
          by_cases e14 : ek E a = 14
          · obtain ⟨I', q1, q2⟩ := one actor (by omega)
            rw [if_pos (show nI (ek E a) = 14 by rw [e14]; rfl), xup_ne (show 85 ≠ 80 by omega), hact, q1, if_pos e14]
            exact ⟨_, rfl, q2⟩
          · rw [if_neg (show ¬ nI (ek E a) = 14 from nI_ne (b := 14) e14 (by omega) (by omega)), if_neg e14, pnOf_k _ hkl]
            simp only [Option.bind_some]
            rw [mb_p _ (pn_lt _)]
            simp only [Option.bind_some]
            have hp4 := pn_lt (ek E a)
            have hl := hT _ hp4
            obtain ⟨I', q1, q2, q3⟩ := pron_loop (o := o) (q := 15 + 2 * pnOf (ek E a)) (l := T (pnOf (ek E a))) (fun c hc => by omega) 300 0 acc (xup s.1 80 8 (nI (a + 1)), s.2) (by omega) (by have := CL_len hl; omega) (CL_congr hl (by dsimp only; rw [xup_ne (by omega)]) (by dsimp only; rw [xup_ne (by omega)])) g3
            rw [nI_0] at q1
            rw [q1]
            refine ⟨_, rfl, ⟨rfl, fun c c1 c2 c3 => ?_, ?_, ?_⟩, by simpa using q2⟩
            · dsimp only; rw [q3 c c2 c3]; dsimp only; rw [xup_ne c1]
            · dsimp only; rw [q3 80 (by omega) (by omega)]; exact g2
            · dsimp only; rw [q3 80 (by omega) (by omega)]; dsimp only; rw [xup_j (by omega)]
    by_cases hw : 15 ≤ ek E a ∧ ek E a ≤ 18
    · rw [if_pos hw, if_neg (by decide), if_pos (by omega), if_pos (Or.inl (Or.inl hw))]
      unfold J_X2_readItem_38 J_X2_readItem_41
      rw [if_neg (by decide)]
      exact whoseN hE hs hT hTo ha hal ho h80 (Or.inl hw)
    · rw [if_neg hw, if_pos rfl]
      by_cases e10 : ek E a = 10
      · rw [if_pos (show nI (ek E a) = 10 by rw [e10]; rfl), ha, nI_s, kindAt_k hE hs (by omega)]
        simp only [Option.bind_some]
        by_cases eb : ek E (a + 1) = 23
        · rw [if_pos (show nI (ek E (a + 1)) = 23 by rw [eb]; rfl), if_pos (by omega), if_pos (by omega)]
          unfold J_X2_readItem_38 J_X2_readItem_41
          rw [if_neg (by decide)]
          exact whoseN hE hs hT hTo ha hal ho h80 (Or.inr e10)
        · rw [if_neg (show ¬ nI (ek E (a + 1)) = 23 from nI_ne (b := 23) eb (by have := ek_lt hE (a + 1); omega) (by omega)), if_neg (by omega)]
          exact pron (by omega) (by omega)
      · rw [if_neg (show ¬ nI (ek E a) = 10 from nI_ne (b := 10) e10 (by omega) (by omega))]
        by_cases ep : 8 ≤ ek E a ∧ ek E a ≤ 14
        · rw [if_neg (by omega)]
          exact pron ep.1 ep.2
        · rw [if_pos (by omega)]
          unfold J_X2_readItem_40 J_X2_readItem_41
          rw [if_pos rfl, isPron_k _ hkl]
          simp only [Option.bind_some]
          rw [if_neg ep, if_pos rfl]
          unfold J_X2_readItem_53
          rw [if_pos rfl]
          unfold J_X2_readItem_68
          rw [if_pos rfl]
          have hX : ∀ t, t < eT E → bt (s.1 1 2) t = (eS E t && ownP E T (ek E a) t) := by
            intro t ht
            rw [hs.2.2.1 t ht]
            unfold ownP
            rw [if_neg (by omega)]; simp
          by_cases k0 : ek E a = 0
          · rw [if_pos (show nI (ek E a) = 0 by rw [k0]; rfl), if_pos (by omega)]
            exact J78 hE hs ha hal hX ho h80
          · rw [if_neg (show ¬ nI (ek E a) = 0 from nI_ne (b := 0) k0 (by omega) (by omega))]
            by_cases k1 : ek E a = 1
            · rw [if_pos (show nI (ek E a) = 1 by rw [k1]; rfl), if_pos (by omega)]
              exact J78 hE hs ha hal hX ho h80
            · rw [if_neg (show ¬ nI (ek E a) = 1 from nI_ne (b := 1) k1 (by omega) (by omega))]
              by_cases k2 : ek E a = 2
              · rw [if_pos (show nI (ek E a) = 2 by rw [k2]; rfl), if_pos (by omega)]
                exact J78 hE hs ha hal hX ho h80
              · rw [if_neg (show ¬ nI (ek E a) = 2 from nI_ne (b := 2) k2 (by omega) (by omega)), if_neg (by omega)]
                exact J84 hE hs ha (by omega) hX ho h80
theorem readItem_k (hE : EOK E) (hs : CE s E) (hT : CT s T) (hTo : TOK E T) (ha : s.1 80 8 = nI a) (hal : a ≤ 200) (ho : CL s o acc) (h80 : o = 86 ∨ o = 88 ∨ o = 90 ∨ o = 92) (hact : s.1 85 2 = nI actor) (hactor : actor < eT E) : Fol s o acc (F_X2_readItem o s) (sItem E T actor a) := by
  have hkl := ek_lt hE a
  have h24 := hE.2.1
  have h16 := J16 hE hs hT hTo ha hal ho h80 hact hactor
  unfold F_X2_readItem
  rw [ha, kindAt_k hE hs (by omega)]
  simp only [Option.bind_some]
  rw [isFT_k _ hkl]
  simp only [Option.bind_some]
  have hsI : sItem E T actor a = (if ((8 ≤ ek E a ∧ ek E a ≤ 11) ∨ (15 ≤ ek E a ∧ ek E a ≤ 17)) ∧ T (pnOf (ek E a)) = [] then .error (6, a)
    else if ((8 ≤ ek E a ∧ ek E a ≤ 11) ∨ (15 ≤ ek E a ∧ ek E a ≤ 17)) ∧ (T (pnOf (ek E a))).all (eS E) = false then .error (7, a) else sIt2 E T actor a) := rfl
  rw [hsI]
  by_cases hft : (8 ≤ ek E a ∧ ek E a ≤ 11) ∨ (15 ≤ ek E a ∧ ek E a ≤ 17)
  · rw [if_pos hft, if_neg (by decide), pnOf_k _ hkl]
    simp only [Option.bind_some, hft, true_and]
    have hp4 := pn_lt (ek E a)
    have hl := hT _ hp4
    have hlen := CL_len hl
    have htr : F_X2_isTableReady (nI (pnOf (ek E a))) s = (if T (pnOf (ek E a)) = [] then some (0, (xup (xup s.1 80 9 6) 80 10 (nI a), s.2)) else if (T (pnOf (ek E a))).all (eS E) = false then some (0, (xup (xup s.1 80 9 7) 80 10 (nI a), s.2)) else some (1, s)) := by
      unfold F_X2_isTableReady
      rw [mb_p _ hp4]
      simp only [Option.bind_some]
      rw [hl.1, ha]
      by_cases en : T (pnOf (ek E a)) = []
      · rw [if_pos (by rw [en]; rfl), if_pos en]; rfl
      · have hpos : 0 < (T (pnOf (ek E a))).length := List.length_pos_iff.mpr en
        rw [if_neg (nI_ne0 hpos (by omega)), if_neg en]
        have hbits : (s.1 (15 + 2 * pnOf (ek E a)) 2 &&& (s.1 1 2 ^^^ (-1 : Int32))) = 0 ↔ (T (pnOf (ek E a))).all (eS E) = true := by
          rw [b_zero, List.all_eq_true]
          constructor
          · intro h x hx
            have hxT := (hTo _ hp4).2 x hx
            have := h x (by omega)
            rw [b_and, b_xor, b_m1 x (by omega), hl.2.2.2.2 x (by omega), hs.2.2.1 x hxT] at this
            simpa [hx] using this
          · intro h i hi
            rw [b_and, b_xor, b_m1 i hi, hl.2.2.2.2 i hi]
            by_cases hx : i ∈ T (pnOf (ek E a))
            · rw [hs.2.2.1 i ((hTo _ hp4).2 i hx), h i hx]; simp
            · simp [hx]
        by_cases ea : (T (pnOf (ek E a))).all (eS E) = true
        · rw [if_pos (hbits.mpr ea), if_neg (by rw [ea]; simp)]
        · rw [if_neg (fun q => ea (hbits.mp q)), if_pos (by simpa using ea)]; rfl
    rw [htr]
    by_cases en : T (pnOf (ek E a)) = []
    · rw [if_pos en, if_pos en]
      refine ⟨fun e he => ?_, fun l b he => by cases he⟩
      cases he
      exact ⟨_, rfl, fail_er o⟩
    · rw [if_neg en, if_neg en]
      by_cases ea : (T (pnOf (ek E a))).all (eS E) = false
      · rw [if_pos ea, if_pos ea]
        refine ⟨fun e he => ?_, fun l b he => by cases he⟩
        cases he
        exact ⟨_, rfl, fail_er o⟩
      · rw [if_neg ea, if_neg ea]
        simp only [Option.bind_some, if_neg (show ¬ (1 : Int32) = 0 by decide)]
        exact h16
  · rw [if_neg hft, if_pos rfl, if_neg (fun q => hft q.1), if_neg (fun q => hft q.1)]
    exact h16
end
