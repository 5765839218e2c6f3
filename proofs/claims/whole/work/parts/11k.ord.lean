theorem addAll_self : ∀ (l acc : List Nat), (acc ++ l).Nodup → addAll acc l = acc ++ l
  | [], acc, _ => by simp [addAll]
  | x :: l, acc, h => by
    have hx : ¬ x ∈ acc := by
      intro q
      have := (List.nodup_append.mp h).2.2 x q x (by simp)
      exact this rfl
    show addAll (add1 acc x) l = _
    unfold add1
    rw [if_neg hx, addAll_self l (acc ++ [x]) (by simpa using h)]
    simp
/-- who is spoken to -/
def sAct (E : LEnv) (T : Nat → List Nat) (a bh : Nat) : Except (Nat × Nat) (Nat × Nat) := match sItem E T 0 a with
  | .error e => .error e
  | .ok (l, b) => match l with
    | [x] => if x = 0 ∨ ¬ (eK E x = 1 ∨ eK E x = 2) then .error (8, a) else if ek E b = bh then .ok (x, b + 1) else .error (mis E b)
    | _ => .error (8, a)
theorem sWho_eq (E : LEnv) (A : Ab) (a bh : Nat) : sWho E A a bh = match sAct E A.1 a bh with
  | .error e => (A, .error e)
  | .ok (x, b) => sCmds E x 300 A [x] b := by
  unfold sWho sAct
  cases sItem E A.1 0 a with
  | error e => rfl
  | ok q =>
    obtain ⟨l, b⟩ := q
    match l with
    | [] => rfl
    | [x] =>
      dsimp only
      by_cases h1 : x = 0 ∨ ¬ (eK E x = 1 ∨ eK E x = 2)
      · rw [if_pos h1, if_pos h1]
      · rw [if_neg h1, if_neg h1]
        by_cases h2 : ek E b = bh
        · rw [if_pos h2, if_pos h2]
        · rw [if_neg h2, if_neg h2]
    | x :: y :: r => rfl
section
variable {s : St} {E : LEnv} {T : Nat → List Nat} {o a b actor : Nat}
theorem again_k {A : Ab} (hE : EOK E) (hs : CE s E) (hA : CA s A) (hok : AOK E A) (ha : s.1 80 8 = nI a) (hk : ek E a = 7) : FolO s (F_X2_readAgain s) (sAgain E A a) := by
  have h200 := hE.2.2.2.2.2.1
  have h24 := hE.2.1
  have ham := em_lt hE (a := a) (by omega)
  obtain ⟨h1, h2, h3, h4, h5, h6⟩ := id hA
  have fl : ∀ f : Nat, FolO s (some (0, (xup (xup s.1 80 9 (nI f)) 80 10 (nI a), s.2))) (A, .error (f, a)) := by
    intro f
    have := fail_er (s := s) (f := f) (t := a) 86
    exact FolO_er rfl (FR_mis this) (CA_congr hA (fun c q => this.2.1 c (by omega) (by omega) (by omega))) this.2.2.1 this.2.2.2
  unfold F_X2_readAgain sAgain
  rw [h4, ha]
  by_cases e0 : A.2.2.2 = 0
  · rw [if_pos e0, if_pos e0]; exact fl 6
  · rw [if_neg e0, if_neg e0]
    obtain ⟨o1, o2, o3, o4, o5⟩ := id h6
    obtain ⟨k1, k2, k3⟩ := hok.2.2
    have hm : F_X0_members 25 s = some (((1 : Int32) <<< (nI A.2.2.1.1 &&& 31)) ||| s.1 26 2 ||| s.1 28 2, s) := by
      unfold F_X0_members
      rw [o1, bitOf_k (by omega)]; rfl
    rw [hm]
    simp only [Option.bind_some]
    have hbits : ((((1 : Int32) <<< (nI A.2.2.1.1 &&& 31)) ||| s.1 26 2 ||| s.1 28 2) &&& (s.1 1 2 ^^^ (-1 : Int32))) = 0 ↔ (A.2.2.1.1 :: (A.2.2.1.2.2.2.1 ++ A.2.2.1.2.2.2.2)).all (eS E) = true := by
      have hmem : ∀ i, i < 32 → bt (((1 : Int32) <<< (nI A.2.2.1.1 &&& 31)) ||| s.1 26 2 ||| s.1 28 2) i = decide (i ∈ A.2.2.1.1 :: (A.2.2.1.2.2.2.1 ++ A.2.2.1.2.2.2.2)) := by
        intro i hi
        rw [b_or, b_or, b_one _ (by omega) i hi]
        have q4 : bt (s.1 26 2) i = decide (i ∈ A.2.2.1.2.2.2.1) := o4.2.2.2.2 i hi
        have q5 : bt (s.1 28 2) i = decide (i ∈ A.2.2.1.2.2.2.2) := o5.2.2.2.2 i hi
        rw [q4, q5]
        by_cases m1 : i = A.2.2.1.1 <;> by_cases m2 : i ∈ A.2.2.1.2.2.2.1 <;> by_cases m3 : i ∈ A.2.2.1.2.2.2.2 <;> simp [m1, m2, m3] <;> simp_all
      have hlt : ∀ x ∈ A.2.2.1.1 :: (A.2.2.1.2.2.2.1 ++ A.2.2.1.2.2.2.2), x < eT E := by
        intro x hx
        rcases List.mem_cons.mp hx with rfl | hx
        · exact k1
        · rcases List.mem_append.mp hx with hx | hx
          · exact k2.2 x hx
          · exact k3.2 x hx
      rw [b_zero, List.all_eq_true]
      constructor
      · intro h x hx
        have hxT := hlt x hx
        have := h x (by omega)
        rw [b_and, b_xor, b_m1 x (by omega), hmem x (by omega), hs.2.2.1 x hxT] at this
        simp only [hx, decide_true, Bool.true_and] at this
        simpa using this
      · intro h i hi
        rw [b_and, b_xor, b_m1 i hi, hmem i hi]
        by_cases hx : i ∈ A.2.2.1.1 :: (A.2.2.1.2.2.2.1 ++ A.2.2.1.2.2.2.2)
        · rw [hs.2.2.1 i (hlt i hx), h i hx]; simp
        · simp only [hx, decide_false, Bool.false_and]
    by_cases e1 : (A.2.2.1.1 :: (A.2.2.1.2.2.2.1 ++ A.2.2.1.2.2.2.2)).all (eS E) = false
    · rw [if_neg (fun q => by rw [hbits.mp q] at e1; cases e1), if_pos e1, ha]; exact fl 7
    · rw [if_pos (hbits.mpr (by simpa using e1)), if_neg e1, full_k h2 h3]
      simp only [Option.bind_some]
      by_cases e10 : A.2.1.length = 10
      · rw [if_pos e10, if_neg (by decide), if_pos e10, ha]; exact fl 9
      · rw [if_neg e10, if_pos rfl, if_neg e10, ha, nI_s]
        have hs' : CE (xup s.1 80 8 (nI (a + 1)), s.2) E := CE_congr hs (fun c q => by dsimp only; rw [xup_ne (by omega)])
        have hA' : CA (xup s.1 80 8 (nI (a + 1)), s.2) A := CA_congr hA (fun c q => by dsimp only; rw [xup_ne (by omega)])
        have ha' : (xup s.1 80 8 (nI (a + 1)), s.2).1 80 8 = nI (a + 1) := by dsimp only; rw [xup_eq, if_pos rfl]
        have hFR : FR s (xup s.1 80 8 (nI (a + 1)), s.2) := ⟨rfl, fun c q => by dsimp only; rw [xup_ne (by omega)]⟩
        have h9 : xup s.1 80 8 (nI (a + 1)) 80 9 = s.1 80 9 := xup_j (by omega)
        rw [oend_k hE hs' ha' (by omega)]
        simp only [Option.bind_some]
        by_cases ee : ek E (a + 1) = 28 ∨ ek E (a + 1) = 22 ∨ ek E (a + 1) = 4
        · rw [if_pos ee, if_neg (by decide), if_pos ee]
          obtain ⟨I', p1, p2, p3⟩ := keep_k (a := 25) hA' (CO_congr h6 (fun c x y => by dsimp only; rw [xup_ne (by omega)])) (Or.inr ⟨rfl, rfl⟩) (by omega)
          rw [p1]
          refine ⟨fun A' e he => (by cases he), fun A' b he => ?_⟩
          cases he
          exact ⟨_, rfl, ⟨rfl, fun c q => (p3 c (by omega) (by omega)).trans (by dsimp only; rw [xup_ne (by omega)])⟩, p2, (congrFun (p3 80 (by omega) (by omega)) 8).trans ha', (congrFun (p3 80 (by omega) (by omega)) 9).trans h9⟩
        · rw [if_neg ee, if_pos rfl, if_neg ee]
          obtain ⟨s6, m1, m2⟩ := misp_k hE hs' ha' (by omega) 86
          exact FolO_of hFR h9 (FolO_er (if01 (P := True) m1 (Or.inl rfl)) (FR_mis m2) (CA_congr hA' (fun c q => m2.2.1 c (by omega) (by omega) (by omega))) m2.2.2.1 m2.2.2.2)
/-- the actor, read -/
def FolA (s : St) (F : Option (Int32 × St)) (R : Except (Nat × Nat) (Nat × Nat)) : Prop :=
  (∀ e, R = .error e → ∃ s', F = some (0, s') ∧ s'.2 = s.2 ∧ (∀ c, c ≠ 80 → c ≠ 85 → c ≠ 92 → c ≠ 93 → s'.1 c = s.1 c) ∧ s'.1 80 9 = nI e.1 ∧ s'.1 80 10 = nI e.2) ∧
  (∀ x b, R = .ok (x, b) → ∃ s', F = some (1, s') ∧ s'.2 = s.2 ∧ (∀ c, c ≠ 80 → c ≠ 85 → c ≠ 92 → c ≠ 93 → s'.1 c = s.1 c) ∧ s'.1 80 8 = nI b ∧ s'.1 80 9 = s.1 80 9 ∧ s'.1 85 2 = nI x ∧ CL s' 92 [x])
theorem person_k {x : Nat} (hE : EOK E) (hs : CE s E) (hx : x < eT E) : F_X6_isPerson (nI x) s = some (if eK E x = 1 ∨ eK E x = 2 then 1 else 0, s) := by
  have h24 := hE.2.1
  have hk4 := hE.2.2.2.1 x hx
  unfold F_X6_isPerson
  rw [hs.1, if_neg (nI_pos (by omega)), if_neg (nI_ge hx (by omega)), if_neg (grd (n := 24) (by omega) (by omega)), nI_clamp (by omega), hs.2.1 x hx]
  rcases (show eK E x = 0 ∨ eK E x = 1 ∨ eK E x = 2 ∨ eK E x = 3 by omega) with q | q | q | q <;> rw [q] <;> rfl
theorem actor19 {l1 : Int32} {bh : Nat} (hE : EOK E) (hs : CE s E) (hT : CT s T) (hTo : TOK E T) (ha : s.1 80 8 = nI a) (ham : a ≤ em E) (h92 : CL s 92 []) (hact : s.1 85 2 = nI 0) (hbh : (l1 = 0 ∧ bh = 21) ∨ (l1 = 1 ∧ bh = 6)) : FolA s (J_X2_readActor_19 l1 s) (sAct E T a bh) := by
  have h200 := hE.2.2.2.2.2.1
  have h24 := hE.2.1
  obtain ⟨r1, r2⟩ := readItem_k (o := 92) hE hs hT hTo ha (by omega) h92 (by omega) hact hE.1
  unfold J_X2_readActor_19 sAct
  cases hi : sItem E T 0 a with
  | error e =>
    obtain ⟨s', q1, q2, q3, q4, q5⟩ := r1 e hi
    rw [q1]
    refine ⟨fun e' he => ?_, fun x b he => by cases he⟩
    cases he
    exact ⟨s', rfl, q2, fun c c1 _ c2 c3 => q3 c c1 c2 c3, q4, q5⟩
  | ok q =>
    obtain ⟨l, b⟩ := q
    obtain ⟨s', q1, ⟨q2, q3, q4, q5⟩, q6⟩ := r2 l b hi
    obtain ⟨k1, k2, k3, k4, k5⟩ := sItem_ok hE hTo hE.1 hi
    rw [addAll_self l [] (by simpa using k4), List.nil_append] at q6
    rw [q1]
    simp only [Option.bind_some, if_neg (show ¬ (1 : Int32) = 0 by decide)]
    have hs' : CE s' E := CE_congr hs (fun c q => q3 c (by omega) (by omega) (by omega))
    have fl : ∀ f : Nat, FolA s (some (0, (xup (xup s'.1 80 9 (nI f)) 80 10 (nI a), s'.2))) (.error (f, a)) := by
      intro f
      refine ⟨fun e' he => ?_, fun x b he => by cases he⟩
      cases he
      have := fail_er (s := s') (f := f) (t := a) 92
      exact ⟨_, rfl, q2, fun c c1 _ c2 c3 => (this.2.1 c c1 c2 c3).trans (q3 c c1 c2 c3), this.2.2⟩
    match l, k3, k5, q6 with
    | [], k3, _, _ => exact absurd rfl k3
    | [x], _, k5, q6 =>
      have hx : x < eT E := k5 x (by simp)
      have h0 : F_X5_at 92 0 s' = some (nI x, s') := lat_k (k := 0) q6 rfl
      have h1 : s'.1 92 1 = 1 := q6.1
      rw [h0]
      simp only [Option.bind_some]
      rw [if_pos h1, ha]
      by_cases e0 : x = 0
      · rw [if_pos (show nI x = 0 by rw [e0]; rfl), if_pos (Or.inl e0)]; exact fl 8
      · rw [if_neg (nI_ne0 (by omega) (by omega)), person_k hE hs' hx]
        simp only [Option.bind_some]
        by_cases ep : eK E x = 1 ∨ eK E x = 2
        · rw [if_pos ep, if_neg (by decide), if_neg (fun q => q.elim e0 (fun q => q ep)), q4, kindAt_k hE hs' (by omega)]
          simp only [Option.bind_some]
          have hJ : FolA s (J_X2_readActor_61 (nI x) (nI (ek E b)) (nI bh) s') (if ek E b = bh then .ok (x, b + 1) else .error (mis E b)) := by
            unfold J_X2_readActor_61
            by_cases eb : ek E b = bh
            · rw [if_pos (by rw [eb]), if_pos eb, q4, nI_s]
              refine ⟨fun e he => (by cases he), fun x' b' he => ?_⟩
              cases he
              refine ⟨_, rfl, q2, fun c c1 c2 c3 c4 => ?_, ?_, ?_, ?_, ?_⟩
              · dsimp only; rw [xup_ne c2, xup_ne c1]; exact q3 c c1 c3 c4
              · dsimp only; rw [xup_ne (by omega), xup_eq, if_pos rfl]
              · dsimp only; rw [xup_ne (by omega), xup_j (by omega)]; exact q5
              · dsimp only; rw [xup_eq, if_pos rfl]
              · exact CL_congr q6 (by dsimp only; rw [xup_ne (by omega), xup_ne (by omega)]) (by dsimp only; rw [xup_ne (by omega), xup_ne (by omega)])
            · rw [if_neg (nI_ne eb (by have := ek_lt hE b; omega) (by omega)), if_neg eb]
              obtain ⟨s6, m1, m2⟩ := misp_k hE hs' q4 (by omega) 92
              refine ⟨fun e' he => ?_, fun x b he => by cases he⟩
              cases he
              exact ⟨s6, if01 (P := True) m1 (Or.inl rfl), m2.1.trans q2, fun c c1 _ c2 c3 => (m2.2.1 c c1 c2 c3).trans (q3 c c1 c2 c3), m2.2.2⟩
          rcases hbh with ⟨w1, w2⟩ | ⟨w1, w2⟩
          · rw [w1, if_pos rfl]; rw [w2] at hJ ⊢; exact hJ
          · rw [w1, if_neg (by decide)]; rw [w2] at hJ ⊢; exact hJ
        · rw [if_neg ep, if_pos rfl, if_pos (Or.inr ep)]; exact fl 8
    | x :: y :: r, _, _, q6 =>
      have h0 : F_X5_at 92 0 s' = some (nI x, s') := lat_k (k := 0) q6 rfl
      have hlen := CL_len q6
      have h1 : ¬ s'.1 92 1 = 1 := by rw [q6.1]; exact nI_ne (b := 1) (by simp) (by omega) (by omega)
      rw [h0]
      simp only [Option.bind_some]
      rw [if_neg h1, ha]
      exact fl 8
end
