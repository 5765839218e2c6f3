section
variable {s : St} {E : LEnv} {T : Nat → List Nat} {o a b actor : Nat}
theorem skip_k (hE : EOK E) : ∀ f a i (s : St), em E < f + i → i ≤ a → a ≤ em E → CE s E → s.1 80 8 = nI a → ∃ I', L_X2_skipStops_2 f (nI i) s = some (I', s.2) ∧ I' 80 8 = nI (sSkip E f a) ∧ (∀ j, j ≠ 8 → I' 80 j = s.1 80 j) ∧ ∀ c, c ≠ 80 → I' c = s.1 c := by
  have h200 := hE.2.2.2.2.2.1
  intro f
  induction f with
  | zero => intro a i s h1 h2 h3; omega
  | succ f ih =>
    intro a i s h1 h2 h3 hs ha
    unfold L_X2_skipStops_2 sSkip
    by_cases q : (200 : Int32) ≤ nI i
    · rw [if_pos q]
      have : ¬ i < 200 := fun h => nI_ge (b := 200) h (by omega) q
      have ea : ek E a = 28 := hE.2.2.2.2.2.2.1 a (by omega)
      rw [if_neg (by omega)]
      exact ⟨s.1, rfl, ha, fun _ _ => rfl, fun _ _ => rfl⟩
    · rw [if_neg q, ha, kindAt_k hE hs (by omega)]
      simp only [Option.bind_some]
      rw [isStop_k _ (ek_lt hE a)]
      simp only [Option.bind_some]
      by_cases e : ek E a = 22 ∨ ek E a = 4
      · rw [if_pos e, if_neg (by decide), if_pos e, ha, nI_s, nI_s]
        have := em_lt hE (a := a) (by omega)
        obtain ⟨I', p1, p2, p3, p4⟩ := ih (a + 1) (i + 1) (xup s.1 80 8 (nI (a + 1)), s.2) (by omega) (by omega) (by omega) (CE_congr hs (fun c q => by dsimp only; rw [xup_ne (by omega)])) (by dsimp only; rw [xup_eq, if_pos rfl])
        exact ⟨I', p1, p2, fun j hj => (p3 j hj).trans (by dsimp only; rw [xup_j hj]), fun c hc => (p4 c hc).trans (by dsimp only; rw [xup_ne hc])⟩
      · rw [if_neg e, if_pos rfl, if_neg e]
        exact ⟨s.1, rfl, ha, fun _ _ => rfl, fun _ _ => rfl⟩
/-- one order, from its first token on -/
theorem ord_k {A : Ab} (hE : EOK E) (hs : CE s E) (hA : CA s A) (hok : AOK E A) (ha : s.1 80 8 = nI a) (hk : ek E a ≠ 28) :
    FolO s (if nI (ek E a) = (7 : Int32) then ((F_X2_readAgain s).bind fun q5 => if q5.1 = 0 ∨ q5.1 = 1 then some (q5.1, q5.2) else none) else (let i6 : Nat → Nat → Int32 := xup s.1 85 2 (0 : Int32); (F_X5_clear 92 (i6, s.2)).bind fun q7 => if nI (ek E a) = (24 : Int32) then (L_X2_readOrder_36 300 (0 : Int32) q7) else ((F_X2_readActor q7).bind fun q20 => if q20.1 = (0 : Int32) then (some ((0 : Int32), q20.2)) else (L_X2_readOrder_36 300 (0 : Int32) q20.2)))) (sOrd E A a) := by
  have h200 := hE.2.2.2.2.2.1
  have h24 := hE.2.1
  have ham := em_lt hE hk
  have kn : ∀ {k c : Nat}, ek E k ≠ c → c < 40 → ¬ nI (ek E k) = nI c := fun {k c} h hc => nI_ne h (by have := ek_lt hE k; omega) (by omega)
  unfold sOrd
  by_cases e7 : ek E a = 7
  · rw [if_pos (show nI (ek E a) = 7 by rw [e7]; rfl), if_pos e7]
    obtain ⟨r1, r2⟩ := again_k hE hs hA hok ha e7
    refine ⟨fun A' e he => ?_, fun A' b he => ?_⟩
    · obtain ⟨s', q1, q2⟩ := r1 A' e he
      exact ⟨s', if01 (P := True) q1 (Or.inl rfl), q2⟩
    · obtain ⟨s', q1, q2⟩ := r2 A' b he
      exact ⟨s', if01 (P := True) q1 (Or.inr rfl), q2⟩
  · rw [if_neg (show ¬ nI (ek E a) = 7 from kn (c := 7) e7 (by omega)), if_neg e7]
    obtain ⟨I1, c1, c2, c3, c4⟩ := clear_k (s := (xup s.1 85 2 (0 : Int32), s.2)) (o := 92)
    dsimp only at c1
    dsimp only
    rw [c1, Option.bind_some]
    have fr1 : ∀ c, c ≠ 85 → c ≠ 92 → c ≠ 93 → I1 c = s.1 c := fun c x y z => (c3 c y z).trans (xup_ne x)
    have hs1 : CE (I1, s.2) E := CE_congr hs (fun c q => fr1 c (by omega) (by omega) (by omega))
    have hA1 : CA (I1, s.2) A := CA_congr hA (fun c q => fr1 c (by omega) (by omega) (by omega))
    have ha1 : (I1, s.2).1 80 8 = nI a := (congrFun (fr1 80 (by omega) (by omega) (by omega)) 8).trans ha
    have h85 : (I1, s.2).1 85 2 = nI 0 := (congrFun (c3 85 (by omega) (by omega)) 2).trans (by dsimp only; rw [xup_eq]; rfl)
    have hFR : FR s (I1, s.2) := ⟨rfl, fun c q => fr1 c (by omega) (by omega) (by omega)⟩
    apply FolO_of hFR (congrFun (fr1 80 (by omega) (by omega) (by omega)) 9)
    by_cases e24 : ek E a = 24
    · rw [if_pos (show nI (ek E a) = 24 by rw [e24]; rfl), if_pos e24]
      have := order36 hE (actor := 0) hE.1 300 A [] a 0 (I1, s.2) (by omega) (by omega) hs1 hA1 hok c2 (by simp) ha1 (by omega) h85
      rw [nI_0] at this
      exact this
    · rw [if_neg (show ¬ nI (ek E a) = 24 from kn (c := 24) e24 (by omega)), if_neg e24]
      -- the actor, then the commands
      have go : ∀ (F : Option (Int32 × St)) (p bh : Nat), FolA (I1, s.2) F (sAct E A.1 p bh) → p ≤ em E → bh ≠ 28 → FolO (I1, s.2) (F.bind fun q20 => if q20.1 = (0 : Int32) then (some ((0 : Int32), q20.2)) else (L_X2_readOrder_36 300 (0 : Int32) q20.2)) (sWho E A p bh) := by
        intro F p bh hF hp hbh
        rw [sWho_eq]
        cases hc : sAct E A.1 p bh with
        | error e =>
          obtain ⟨s', q1, q2, q3, q4, q5⟩ := hF.1 e hc
          rw [q1]
          exact FolO_er rfl ⟨q2, fun c q => q3 c (by omega) (by omega) (by omega) (by omega)⟩ (CA_congr hA1 (fun c q => q3 c (by omega) (by omega) (by omega) (by omega))) q4 q5
        | ok q =>
          obtain ⟨x, b⟩ := q
          obtain ⟨s', q1, q2, q3, q4, q5, q6, q7⟩ := hF.2 x b hc
          have hxb : x < eT E ∧ b ≤ em E := by
            unfold sAct at hc
            cases hi : sItem E A.1 0 p with
            | error e => rw [hi] at hc; cases hc
            | ok q =>
              obtain ⟨l, b'⟩ := q
              rw [hi] at hc
              obtain ⟨k1, k2, k3, k4, k5⟩ := sItem_ok hE hok.1 hE.1 hi
              match l, k5, hc with
              | [], _, hc => cases hc
              | [y], k5, hc =>
                dsimp only at hc
                split at hc
                · cases hc
                · split at hc
                  · rename_i w
                    cases hc
                    refine ⟨k5 x (by simp), ?_⟩
                    rcases Nat.lt_or_ge b' (em E) with h | h
                    · omega
                    · exfalso
                      have := hE.2.2.2.2.2.2.1 b' h
                      omega
                  · cases hc
              | y :: z :: r, _, hc => cases hc
          rw [q1]
          simp only [Option.bind_some, if_neg (show ¬ (1 : Int32) = 0 by decide)]
          apply FolO_of (s := (I1, s.2)) (s1 := s') ⟨q2, fun c q => q3 c (by omega) (by omega) (by omega) (by omega)⟩ q5
          have := order36 hE (actor := x) hxb.1 300 A [x] b 0 s' (by omega) (by omega) (CE_congr hs1 (fun c q => q3 c (by omega) (by omega) (by omega) (by omega))) (CA_congr hA1 (fun c q => q3 c (by omega) (by omega) (by omega) (by omega))) hok q7 (by simpa using hxb.1) q4 hxb.2 q6
          rw [nI_0] at this
          exact this
      unfold F_X2_readActor
      rw [ha1, kindAt_k hE hs1 (by omega), Option.bind_some]
      by_cases e5 : ek E a = 5
      · rw [if_pos (show nI (ek E a) = 5 by rw [e5]; rfl), if_pos e5]
        apply go _ (a + 1) 6 _ (by omega) (by omega)
        unfold J_X2_readActor_10
        rw [if_neg (by decide), ha1, nI_s]
        have := actor19 (s := (xup I1 80 8 (nI (a + 1)), s.2)) (l1 := 1) (bh := 6) (a := a + 1) (T := A.1) hE (CE_congr hs1 (fun c q => by dsimp only; rw [xup_ne (by omega)])) (CT_congr hA1.1 (fun c x y => by dsimp only; rw [xup_ne (by omega)])) hok.1 (by dsimp only; rw [xup_eq, if_pos rfl]) (by omega) (CL_congr c2 (by dsimp only; rw [xup_ne (by omega)]) (by dsimp only; rw [xup_ne (by omega)])) (by dsimp only; rw [xup_ne (by omega)]; exact h85) (Or.inr ⟨rfl, rfl⟩)
        refine ⟨fun e he => ?_, fun x b he => ?_⟩
        · obtain ⟨s', q1, q2, q3, q4⟩ := this.1 e he
          exact ⟨s', q1, q2, fun c x1 x2 x3 x4 => (q3 c x1 x2 x3 x4).trans (xup_ne x1), q4⟩
        · obtain ⟨s', q1, q2, q3, q4, q5, q6⟩ := this.2 x b he
          exact ⟨s', q1, q2, fun c x1 x2 x3 x4 => (q3 c x1 x2 x3 x4).trans (xup_ne x1), q4, q5.trans (by dsimp only; rw [xup_j (by omega)]), q6⟩
      · rw [if_neg (show ¬ nI (ek E a) = 5 from kn (c := 5) e5 (by omega)), if_neg e5]
        apply go _ a 21 _ (by omega) (by omega)
        unfold J_X2_readActor_10
        rw [if_pos rfl]
        exact actor19 (l1 := 0) (bh := 21) hE hs1 hA1.1 hok.1 ha1 (by omega) c2 h85 (Or.inl ⟨rfl, rfl⟩)
/-- the orders of a line, in the class -/
theorem line_k (hE : EOK E) : ∀ f A a i (s : St), em E + 2 ≤ f + a → i ≤ a → a ≤ em E → CE s E → CA s A → AOK E A → s.1 80 8 = nI a → ∃ s', L_X9_line_12 f 1 (nI i) s = some s' ∧ FR s s' ∧ CA s' (sLine E f A a).1 ∧ ((sLine E f A a).2 = none → s'.1 80 9 = s.1 80 9) ∧ ∀ e, (sLine E f A a).2 = some e → s'.1 80 9 = nI e.1 ∧ s'.1 80 10 = nI e.2 := by
  have h200 := hE.2.2.2.2.2.1
  intro f
  induction f with
  | zero => intro A a i s h1 h2 h3; omega
  | succ f ih =>
    intro A a i s h1 h2 h3 hs hA hok ha
    obtain ⟨f', rfl⟩ : ∃ f', f = f' + 1 := ⟨f - 1, by omega⟩
    unfold L_X9_line_12 sLine
    rw [if_neg (by decide), if_neg (show ¬ (200 : Int32) < nI i from nI_nlt (a := 200) (by omega) (by omega))]
    obtain ⟨I1, p1, p2, p3, p4⟩ := skip_k hE 300 a 0 s (by omega) (by omega) h3 hs ha
    rw [nI_0] at p1
    obtain ⟨k1, k2, -⟩ := sSkip_le hE 300 a h3
    have hs1 : CE (I1, s.2) E := CE_congr hs (fun c q => p4 c (by omega))
    have hA1 : CA (I1, s.2) A := CA_congr hA (fun c q => p4 c (by omega))
    have hFR : FR s (I1, s.2) := ⟨rfl, fun c q => p4 c (by omega)⟩
    have stop : ∀ s' : St, L_X9_line_12 (f' + 1) 0 (nI i + 1) s' = some s' := fun s' => by unfold L_X9_line_12; rw [if_pos rfl]
    have hF : F_X2_readOrder s = (if nI (ek E (sSkip E 300 a)) = (28 : Int32) then (some ((0 : Int32), (I1, s.2))) else (if nI (ek E (sSkip E 300 a)) = (7 : Int32) then ((F_X2_readAgain (I1, s.2)).bind fun q5 => if q5.1 = 0 ∨ q5.1 = 1 then some (q5.1, q5.2) else none) else (let i6 : Nat → Nat → Int32 := xup I1 85 2 (0 : Int32); (F_X5_clear 92 (i6, s.2)).bind fun q7 => if nI (ek E (sSkip E 300 a)) = (24 : Int32) then (L_X2_readOrder_36 300 (0 : Int32) q7) else ((F_X2_readActor q7).bind fun q20 => if q20.1 = (0 : Int32) then (some ((0 : Int32), q20.2)) else (L_X2_readOrder_36 300 (0 : Int32) q20.2))))) := by
      unfold F_X2_readOrder F_X2_skipStops
      rw [p1, Option.bind_some, Option.bind_some, show (I1, s.2).1 80 8 = nI (sSkip E 300 a) from p2, kindAt_k hE hs1 (by omega), Option.bind_some]
    rw [hF]
    by_cases e28 : ek E (sSkip E 300 a) = 28
    · rw [if_pos (show nI (ek E (sSkip E 300 a)) = 28 by rw [e28]; rfl), if_pos e28, Option.bind_some, stop]
      exact ⟨_, rfl, hFR, hA1, fun _ => p3 9 (by omega), fun e he => by cases he⟩
    · rw [if_neg (show ¬ nI (ek E (sSkip E 300 a)) = 28 from nI_ne (b := 28) e28 (by have := ek_lt hE (sSkip E 300 a); omega) (by omega)), if_neg e28]
      obtain ⟨r1, r2⟩ := ord_k (s := (I1, s.2)) hE hs1 hA1 hok p2 e28
      obtain ⟨o1, o2⟩ := sOrd_ok hE e28 hok
      cases hR : sOrd E A (sSkip E 300 a) with
      | mk A' R =>
        cases R with
        | error e =>
          obtain ⟨s', q1, q2, q3, q4, q5⟩ := r1 A' e hR
          rw [q1, Option.bind_some, stop]
          exact ⟨s', rfl, FR_trans hFR q2, q3, fun q => (by cases q), fun e' he => by cases he; exact ⟨q4, q5⟩⟩
        | ok b =>
          obtain ⟨s', q1, q2, q3, q4, q5⟩ := r2 A' b hR
          rw [hR] at o1 o2
          have hb := o2 b rfl
          rw [q1, Option.bind_some, nI_s]
          obtain ⟨s2, w1, w2, w3, w4, w5⟩ := ih A' b (i + 1) s' (by omega) (by omega) (by omega) (CE_congr hs1 (fun c q => q2.2 c (by omega))) q3 o1 q4
          exact ⟨s2, w1, FR_trans hFR (FR_trans q2 w2), w3, fun q => (w4 q).trans (q5.trans (p3 9 (by omega))), w5⟩
end
