theorem sItems_nodupL (l : List Nat) : (addAll [] l).Nodup := addAll_nodup List.nodup_nil
section
variable {s : St} {E : LEnv} {T : Nat → List Nat} {o a b actor : Nat}
theorem sList_ok {l : List Nat} (hE : EOK E) (hT : TOK E T) (ha : actor < eT E) (h : sList E T actor a = .ok (l, b)) : a < b ∧ b ≤ em E ∧ l.Nodup ∧ ∀ x ∈ l, x < eT E := by
  unfold sList at h
  split at h
  · cases h
  · rename_i l' b' hi
    obtain ⟨q1, q2, q3, q4⟩ := sItems_ok hE hT ha _ _ _ _ _ hi (by simp)
    have hl : ∀ x ∈ addAll [] l', x < eT E := fun x hx => q4 x (by simpa using addAll_mem.mp hx)
    split at h
    · split at h
      · cases h
      · rename_i x c hc
        obtain ⟨p1, p2, p3, p4⟩ := sItems_ok hE hT ha _ _ _ _ _ hc (by simp)
        split at h
        · cases h
        · cases h
          exact ⟨by omega, p2, (sItems_nodupL _).filter _, fun x hx => hl x (List.mem_filter.mp hx).1⟩
    · cases h
      exact ⟨q1, q2, sItems_nodupL _, hl⟩
theorem sCmd_ok {c : Cmd} {no : Nat} (hE : EOK E) (hT : TOK E T) (ha : actor < eT E) (h : sCmd E T no actor a = .ok (c, b)) : ek E a = 24 ∧ no ≠ 10 ∧ a < b ∧ b ≤ em E ∧ (c.2.2.1.Nodup ∧ ∀ x ∈ c.2.2.1, x < eT E) ∧ (c.2.2.2.Nodup ∧ ∀ x ∈ c.2.2.2, x < eT E) := by
  unfold sCmd at h
  split at h
  · rename_i hk
    have ham := em_lt hE (a := a) (by omega)
    split at h
    · cases h
    · rename_i hn
      split at h
      · cases h; exact ⟨hk, hn, by omega, by omega, by simp, by simp⟩
      · split at h
        · cases h
        · rename_i l1 b1 h1
          obtain ⟨q1, q2, q3, q4⟩ := sList_ok hE hT ha h1
          split at h
          · cases h; exact ⟨hk, hn, by omega, by omega, ⟨q3, q4⟩, by simp⟩
          · split at h
            · split at h
              · cases h
              · rename_i l2 c2 h2
                obtain ⟨p1, p2, p3, p4⟩ := sList_ok hE hT ha h2
                cases h
                exact ⟨hk, hn, by omega, by omega, ⟨q3, q4⟩, ⟨p3, p4⟩⟩
            · split at h
              · cases h; exact ⟨hk, hn, by omega, by omega, ⟨q3, q4⟩, by simp⟩
              · cases h
  · cases h
def CErC (s s' : St) (e : Nat × Nat) : Prop := s'.2 = s.2 ∧ (∀ c, c ≠ 80 → ¬ (85 ≤ c ∧ c ≤ 91) → s'.1 c = s.1 c) ∧ s'.1 80 9 = nI e.1 ∧ s'.1 80 10 = nI e.2
def COkC (s s' : St) (c : Cmd) (b : Nat) : Prop := s'.2 = s.2 ∧ (∀ c, c ≠ 80 → ¬ (85 ≤ c ∧ c ≤ 91) → s'.1 c = s.1 c) ∧ s'.1 80 8 = nI b ∧ s'.1 80 9 = s.1 80 9 ∧ s'.1 85 2 = s.1 85 2 ∧ s'.1 85 3 = nI c.1 ∧ s'.1 85 4 = c.2.1 ∧ CL s' 86 c.2.2.1 ∧ CL s' 88 c.2.2.2
def FolC (s : St) (F : Option (Int32 × St)) (R : Except (Nat × Nat) (Cmd × Nat)) : Prop :=
  (∀ e, R = .error e → ∃ s', F = some (0, s') ∧ CErC s s' e) ∧ (∀ c b, R = .ok (c, b) → ∃ s', F = some (1, s') ∧ COkC s s' c b)
theorem FolC_of {s1 : St} {F : Option (Int32 × St)} {R : Except (Nat × Nat) (Cmd × Nat)} (h2 : s1.2 = s.2) (hf : ∀ c, c ≠ 80 → ¬ (85 ≤ c ∧ c ≤ 91) → s1.1 c = s.1 c) (h9 : s1.1 80 9 = s.1 80 9) (h85 : s1.1 85 2 = s.1 85 2) (h : FolC s1 F R) : FolC s F R := by
  refine ⟨fun e he => ?_, fun c b he => ?_⟩
  · obtain ⟨s', q1, q2, q3, q4, q5⟩ := h.1 e he
    exact ⟨s', q1, q2.trans h2, fun c c1 c2 => (q3 c c1 c2).trans (hf c c1 c2), q4, q5⟩
  · obtain ⟨s', q1, q2, q3, q4, q5, q6, q7⟩ := h.2 c b he
    exact ⟨s', q1, q2.trans h2, fun c c1 c2 => (q3 c c1 c2).trans (hf c c1 c2), q4, q5.trans h9, q6.trans h85, q7⟩
theorem FolC_er {s' : St} {F : Option (Int32 × St)} {e : Nat × Nat} {o : Nat} (hF : F = some (0, s')) (h : CEr s s' o e) (ho : o = 86) : FolC s F (.error e) := by
  refine ⟨fun e' he => ?_, fun c b he => by cases he⟩
  cases he
  exact ⟨s', hF, h.1, fun c c1 c2 => h.2.1 c c1 (by omega) (by omega), h.2.2⟩
theorem FolC_er2 {s' : St} {F : Option (Int32 × St)} {e : Nat × Nat} {o : Nat} (hF : F = some (0, s')) (h : CEr2 s s' o e) (ho : o = 86 ∨ o = 88) : FolC s F (.error e) := by
  refine ⟨fun e' he => ?_, fun c b he => by cases he⟩
  cases he
  exact ⟨s', hF, h.1, fun c c1 c2 => h.2.1 c c1 (by omega) (by omega) (by omega) (by omega), h.2.2⟩
theorem full_k {no : Nat} (h : s.1 23 2 = nI no) (hn : no ≤ 10) : F_X1_areFull s = some (if no = 10 then 1 else 0, s) := by
  unfold F_X1_areFull
  rw [h]
  by_cases e : no = 10
  · rw [if_neg (show ¬ nI no < 10 from nI_nlt (b := 10) (by omega) (by omega)), if_pos e]
  · rw [if_pos (show nI no < 10 from nI_lt (b := 10) (by omega) (by omega)), if_neg e]
theorem startVerb_k (x : Int32) : ∃ I', F_X0_startVerb 85 x s = some (I', s.2) ∧ I' 85 2 = s.1 85 2 ∧ I' 85 3 = x ∧ I' 85 4 = -4 ∧ CL (I', s.2) 86 [] ∧ CL (I', s.2) 88 [] ∧ ∀ c, ¬ (85 ≤ c ∧ c ≤ 89) → I' c = s.1 c := by
  unfold F_X0_startVerb
  obtain ⟨I1, q1, q2, q3, q4⟩ := clear_k (s := (xup (xup s.1 85 3 x) 85 4 (-4), s.2)) (o := 85 + 1)
  obtain ⟨I2, p1, p2, p3, p4⟩ := clear_k (s := (I1, s.2)) (o := 85 + 3)
  dsimp only at q1 q3 p1 p3
  simp only [q1, Option.bind_some, p1]
  refine ⟨I2, rfl, ?_, ?_, ?_, CL_congr q2 (p3 86 (by omega) (by omega)) (p3 87 (by omega) (by omega)), p2, fun c hc => ?_⟩
  · rw [p3 85 (by omega) (by omega)]; rw [q3 85 (by omega) (by omega), xup_j (by omega), xup_j (by omega)]
  · rw [p3 85 (by omega) (by omega)]; rw [q3 85 (by omega) (by omega), xup_j (by omega), xup_eq]; rfl
  · rw [p3 85 (by omega) (by omega)]; rw [q3 85 (by omega) (by omega), xup_eq]; rfl
  · rw [p3 c (by omega) (by omega)]; rw [q3 c (by omega) (by omega), xup_ne (by omega), xup_ne (by omega)]
theorem readCommand_k {no : Nat} (hE : EOK E) (hs : CE s E) (hT : CT s T) (hTo : TOK E T) (ha : s.1 80 8 = nI a) (ham : a ≤ em E) (hno : s.1 23 2 = nI no) (h10 : no ≤ 10) (hact : s.1 85 2 = nI actor) (hactor : actor < eT E) : FolC s (F_X2_readCommand s) (sCmd E T no actor a) := by
  have h200 := hE.2.2.2.2.2.1
  have kn : ∀ {k c : Nat}, ek E k ≠ c → c < 40 → ¬ nI (ek E k) = nI c := fun {k c} h hc => nI_ne h (by have := ek_lt hE k; omega) (by omega)
  unfold F_X2_readCommand sCmd
  rw [ha, kindAt_k hE hs (by omega)]
  simp only [Option.bind_some]
  by_cases e24 : ek E a = 24
  · rw [if_pos (show nI (ek E a) = 24 by rw [e24]; rfl), if_pos e24, full_k hno h10]
    simp only [Option.bind_some]
    have hmm := em_lt hE (a := a) (by omega)
    by_cases en : no = 10
    · rw [if_pos en, if_neg (by decide), if_pos en, ha]
      exact FolC_er (o := 86) rfl (fail_er 86) rfl
    · rw [if_neg en, if_pos rfl, if_neg en, ha, wordAt_k hE hs (by omega) (by omega)]
      have hw := hE.2.2.2.2.2.2.2.2.1 a (by omega) (by omega)
      have hf4 := hE.2.2.2.2.2.2.2.2.2.2 _ hw
      simp only [Option.bind_some]
      rw [formOf_k hs.2.2.2.2.1 hE.2.2.2.2.2.2.2.2.2.1 hw, hs.2.2.2.2.2.2.1 _ hw]
      simp only [Option.bind_some, ha]
      rw [wordAt_k hE hs (by omega) (by omega)]
      simp only [Option.bind_some]
      obtain ⟨I1, v1, v2, v3, v4, v5, v6, v7⟩ := startVerb_k (s := s) (nI (ew E a))
      rw [v1]
      simp only [Option.bind_some]
      have ha1 : I1 80 8 = nI a := by rw [v7 80 (by omega)]; exact ha
      rw [ha1, nI_s]
      have hs2 : CE (xup I1 80 8 (nI (a + 1)), s.2) E := CE_congr hs (fun c q => by dsimp only; rw [xup_ne (by omega), v7 c (by omega)])
      have hT2 : CT (xup I1 80 8 (nI (a + 1)), s.2) T := CT_congr hT (fun c x y => by dsimp only; rw [xup_ne (by omega), v7 c (by omega)])
      have c86 : CL (xup I1 80 8 (nI (a + 1)), s.2) 86 [] := CL_congr v5 (by dsimp only; rw [xup_ne (by omega)]) (by dsimp only; rw [xup_ne (by omega)])
      have c88 : CL (xup I1 80 8 (nI (a + 1)), s.2) 88 [] := CL_congr v6 (by dsimp only; rw [xup_ne (by omega)]) (by dsimp only; rw [xup_ne (by omega)])
      have h85 : ∀ j, xup I1 80 8 (nI (a + 1)) 85 j = I1 85 j := fun j => by rw [xup_ne (by omega)]
      have h808 : xup I1 80 8 (nI (a + 1)) 80 8 = nI (a + 1) := by rw [xup_eq, if_pos rfl]
      apply FolC_of (s := s) (s1 := (xup I1 80 8 (nI (a + 1)), s.2)) rfl (fun c c1 c2 => by dsimp only; rw [xup_ne c1, v7 c (by omega)]) (by dsimp only; rw [xup_j (by omega), v7 80 (by omega)]) (by dsimp only; rw [h85, v2])
      have hv3 : xup I1 80 8 (nI (a + 1)) 85 3 = nI (ew E a) := (h85 3).trans v3
      have hv4 : xup I1 80 8 (nI (a + 1)) 85 4 = -4 := (h85 4).trans v4
      have hv2 : xup I1 80 8 (nI (a + 1)) 85 2 = nI actor := (h85 2).trans (v2.trans hact)
      generalize xup I1 80 8 (nI (a + 1)) = I2 at hs2 hT2 c86 c88 h808 hv2 hv3 hv4 ⊢
      by_cases f0 : eF E (ew E a) = 0
      · rw [if_pos (show nI (eF E (ew E a)) = 0 by rw [f0]; rfl), if_pos f0]
        refine ⟨fun e he => (by cases he), fun c b he => ?_⟩
        cases he
        exact ⟨_, rfl, rfl, fun _ _ _ => rfl, h808, rfl, rfl, hv3, hv4, c86, c88⟩
      · rw [if_neg (show ¬ nI (eF E (ew E a)) = 0 from nI_ne (b := 0) f0 (by omega) (by omega)), if_neg f0]
        obtain ⟨r1, r2⟩ := readList_k (o := 86) hE hs2 hT2 hTo h808 (by omega) (by omega) c86 (by omega) hv2 hactor
        cases hl : sList E T actor (a + 1) with
        | error e =>
          obtain ⟨s', q1, q2⟩ := r1 e hl
          rw [q1]
          exact FolC_er2 (o := 86) rfl q2 (by omega)
        | ok q =>
          obtain ⟨l1, b⟩ := q
          obtain ⟨s', q1, ⟨q2, q3, q4, q5⟩, q6⟩ := r2 l1 b hl
          have hb := sList_ok hE hTo hactor hl
          rw [q1]
          simp only [Option.bind_some, if_neg (show ¬ (1 : Int32) = 0 by decide)]
          have hs3 : CE s' E := CE_congr hs2 (fun c q => q3 c (by omega) (by omega) (by omega) (by omega) (by omega))
          have hT3 : CT s' T := CT_congr hT2 (fun c x y => q3 c (by omega) (by omega) (by omega) (by omega) (by omega))
          have c88' : CL s' 88 [] := CL_congr c88 (q3 88 (by omega) (by omega) (by omega) (by omega) (by omega)) (q3 89 (by omega) (by omega) (by omega) (by omega) (by omega))
          have e85 : s'.1 85 = I2 85 := q3 85 (by omega) (by omega) (by omega) (by omega) (by omega)
          apply FolC_of (s1 := s') q2 (fun c c1 c2 => q3 c c1 (by omega) (by omega) (by omega) (by omega)) q5 (by rw [e85])
          have hv2' : s'.1 85 2 = nI actor := by rw [e85]; exact hv2
          have hv3' : s'.1 85 3 = nI (ew E a) := by rw [e85]; exact hv3
          have hv4' : s'.1 85 4 = -4 := by rw [e85]; exact hv4
          rw [q4, kindAt_k hE hs3 (by omega)]
          simp only [Option.bind_some]
          have done : FolC s' (some (1, s')) (.ok ((ew E a, -4, l1, []), b)) := by
            refine ⟨fun e he => (by cases he), fun c b he => ?_⟩
            cases he
            exact ⟨_, rfl, rfl, fun _ _ _ => rfl, q4, rfl, rfl, hv3', hv4', q6, c88'⟩
          by_cases f1 : eF E (ew E a) = 1
          · have g1 : nI (eF E (ew E a)) = 1 := by rw [f1]; rfl
            unfold J_X2_readCommand_65
            rw [if_pos g1, if_pos g1, ite_self, if_pos f1]
            exact done
          · have g1 : ¬ nI (eF E (ew E a)) = 1 := nI_ne (b := 1) f1 (by omega) (by omega)
            rw [if_neg f1]
            by_cases e25 : ek E b = 25
            · rw [if_pos (show nI (ek E b) = 25 by rw [e25]; rfl), if_pos e25]
              unfold J_X2_readCommand_65
              rw [if_neg g1, if_neg (show ¬ (1 : Int32) = 0 by decide), ite_self]
              unfold J_X2_readCommand_76
              rw [if_neg (by decide), q4, wordAt_k hE hs3 (by omega) (by omega)]
              simp only [Option.bind_some, xup_ne (show (80 : Nat) ≠ 85 by omega), q4, nI_s]
              have hbm := em_lt hE (a := b) (by omega)
              have hs4 : CE (xup (xup s'.1 85 4 (nI (ew E b))) 80 8 (nI (b + 1)), s'.2) E := CE_congr hs3 (fun c q => by dsimp only; rw [xup_ne (by omega), xup_ne (by omega)])
              have hT4 : CT (xup (xup s'.1 85 4 (nI (ew E b))) 80 8 (nI (b + 1)), s'.2) T := CT_congr hT3 (fun c x y => by dsimp only; rw [xup_ne (by omega), xup_ne (by omega)])
              have d86 : CL (xup (xup s'.1 85 4 (nI (ew E b))) 80 8 (nI (b + 1)), s'.2) 86 l1 := CL_congr q6 (by dsimp only; rw [xup_ne (by omega), xup_ne (by omega)]) (by dsimp only; rw [xup_ne (by omega), xup_ne (by omega)])
              have d88 : CL (xup (xup s'.1 85 4 (nI (ew E b))) 80 8 (nI (b + 1)), s'.2) 88 [] := CL_congr c88' (by dsimp only; rw [xup_ne (by omega), xup_ne (by omega)]) (by dsimp only; rw [xup_ne (by omega), xup_ne (by omega)])
              have w4 : xup (xup s'.1 85 4 (nI (ew E b))) 80 8 (nI (b + 1)) 85 4 = nI (ew E b) := by rw [xup_ne (by omega), xup_eq]; rfl
              have w3 : xup (xup s'.1 85 4 (nI (ew E b))) 80 8 (nI (b + 1)) 85 3 = nI (ew E a) := by rw [xup_ne (by omega), xup_j (by omega)]; exact hv3'
              have w2 : xup (xup s'.1 85 4 (nI (ew E b))) 80 8 (nI (b + 1)) 85 2 = nI actor := by rw [xup_ne (by omega), xup_j (by omega)]; exact hv2'
              have w8 : xup (xup s'.1 85 4 (nI (ew E b))) 80 8 (nI (b + 1)) 80 8 = nI (b + 1) := by rw [xup_eq, if_pos rfl]
              apply FolC_of (s := s') (s1 := (xup (xup s'.1 85 4 (nI (ew E b))) 80 8 (nI (b + 1)), s'.2)) rfl (fun c c1 c2 => by dsimp only; rw [xup_ne c1, xup_ne (by omega)]) (by dsimp only; rw [xup_j (by omega), xup_ne (by omega)]) (by dsimp only; rw [w2, hv2'])
              generalize xup (xup s'.1 85 4 (nI (ew E b))) 80 8 (nI (b + 1)) = I4 at hs4 hT4 d86 d88 w2 w3 w4 w8 ⊢
              obtain ⟨t1, t2⟩ := readList_k (o := 88) hE hs4 hT4 hTo w8 (by omega) (by omega) d88 (by omega) w2 hactor
              cases hl2 : sList E T actor (b + 1) with
              | error e =>
                obtain ⟨s5, p1, p2⟩ := t1 e hl2
                rw [p1]
                exact FolC_er2 (o := 88) rfl p2 (by omega)
              | ok q =>
                obtain ⟨l2, c⟩ := q
                obtain ⟨s5, p1, ⟨p2, p3, p4, p5⟩, p6⟩ := t2 l2 c hl2
                rw [p1]
                have e85' : s5.1 85 = I4 85 := p3 85 (by omega) (by omega) (by omega) (by omega) (by omega)
                refine ⟨fun e he => (by cases he), fun c b he => ?_⟩
                cases he
                exact ⟨s5, rfl, p2, fun c c1 c2 => p3 c c1 (by omega) (by omega) (by omega) (by omega), p4, p5, by rw [e85'], by rw [e85']; exact w3, by rw [e85']; exact w4, CL_congr d86 (p3 86 (by omega) (by omega) (by omega) (by omega) (by omega)) (p3 87 (by omega) (by omega) (by omega) (by omega) (by omega)), p6⟩
            · rw [if_neg (show ¬ nI (ek E b) = 25 from kn (c := 25) e25 (by omega)), if_neg e25]
              unfold J_X2_readCommand_65
              rw [if_neg g1, if_pos rfl]
              by_cases f3 : eF E (ew E a) = 3
              · rw [if_pos (show nI (eF E (ew E a)) = 3 by rw [f3]; rfl), if_pos f3]
                exact done
              · rw [if_neg (show ¬ nI (eF E (ew E a)) = 3 from nI_ne (b := 3) f3 (by omega) (by omega)), if_neg f3]
                unfold J_X2_readCommand_76
                rw [if_pos rfl]
                obtain ⟨s6, m1, m2⟩ := misp_k hE hs3 q4 (by omega) 86
                exact FolC_er (o := 86) (if01 (P := True) m1 (Or.inl rfl)) m2 rfl
  · rw [if_neg (show ¬ nI (ek E a) = 24 from kn (c := 24) e24 (by omega)), if_neg e24]
    obtain ⟨s6, m1, m2⟩ := misp_k hE hs ha (by omega) 86
    exact FolC_er (o := 86) (if01 (P := True) m1 (Or.inl rfl)) m2 rfl
end
