theorem nI4 : (4 : Int32) = nI 4 := rfl
theorem nI3 : (3 : Int32) = nI 4 - 1 := by decide
theorem grd {k n : Nat} (h : k < n) (hn : n ≤ 2000) : ¬ (nI k < 0 ∨ n ≤ (nI k).toNatClampNeg) := by
  rw [nI_clamp (by omega)]
  exact fun q => q.elim (nI_pos (by omega)) (fun q => by omega)
theorem op_fault : Op_fault INV := by
  intro s hinv
  obtain ⟨nT, nW, nB, nO, hT, hW, hX, hB, hP, hO, hF⟩ := hinv
  exact ⟨s.1 80 9, s, s, rfl, by rw [hF]; rfl, nT, nW, nB, nO, hT, hW, hX, hB, hP, hO, hF⟩
theorem op_count : Op_count INV := by
  intro s a1 hinv
  obtain ⟨nT, nW, nB, nO, hT, hW, hX, hB, hP, hO, hF⟩ := id hinv
  unfold F_X9_count F_X10_count
  by_cases h0 : a1 = 0
  · simp only [h0, if_true]; exact ⟨_, s, s, rfl, by rw [hT.2.2.1, hT.2.2.2.1], hinv⟩
  · by_cases h1 : a1 = 1
    · simp only [h1]; exact ⟨_, s, s, rfl, by rw [hW.2.1, hW.2.2.1]; rfl, hinv⟩
    · by_cases h2 : a1 = 2
      · simp only [h2]; exact ⟨_, s, s, rfl, by rw [hB.2.1, hB.2.2.1]; rfl, hinv⟩
      · by_cases h3 : a1 = 3
        · simp only [h3]; exact ⟨_, s, s, rfl, by rw [hO.2.1, hO.2.2.1]; rfl, hinv⟩
        · by_cases h4 : a1 = 4
          · simp only [h4]; exact ⟨_, s, s, rfl, by rw [hO.2.2.2.1]; rfl, hinv⟩
          · simp only [h0, h1, h2, h3, h4, if_false]; exact ⟨_, s, s, rfl, rfl, hinv⟩
theorem op_see : Op_see INV := by
  intro s a1 b2 hinv hb
  obtain ⟨nT, nW, nB, nO, hT, hW, hX, hB, hP, hO, hF⟩ := id hinv
  obtain ⟨h1, h24, hc, hm, ht, hk0, hs0, hown⟩ := id hT
  rcases ix_out (a := a1) (n := nT) (m := 24) (by omega) h24 with ⟨k, hk, rfl⟩ | hout
  · by_cases hz : k = 0
    · refine ⟨-1, s, s, ?_, ?_, hinv⟩
      · unfold F_X9_see; rw [has_k hc hk (by omega)]; simp [hz, nI_0]
      · unfold F_X10_see; rw [isThing_k hm hk (by omega)]; simp [hz, nI_0]
    · have hne : ¬ nI k = 0 := fun q => hz ((nI_eq0 (by omega)).mp q)
      have hv := (ht k hk).2.2.2.2
      have key : ∀ (m2 : Int32), (∀ i, i < 32 → bt m2 i = if i = k then decide (b2 = 1) else bt (s.1 1 2) i) → F_X6_setSeen (nI k) b2 s = some (xup s.1 1 2 m2, s.2) →
          ∃ (r : Int32) (s1 s2 : St), F_X9_see (nI k) b2 s = some (r, s1) ∧ F_X10_see (nI k) b2 s1 = some (r, s2) ∧ INV s2 := by
        intro m2 hm2 hset
        have hb1 : b2 &&& 1 = b2 := by rcases hb with rfl | rfl <;> rfl
        refine ⟨if bt (s.1 1 2) k then 1 else 0, (xup s.1 1 2 m2, s.2), (xup (xup s.1 1 2 m2) 97 k b2, s.2), ?_, ?_, nT, nW, nB, nO, ?_, IW_congr hW ?_ ?_ ?_ rfl rfl, IX_congr hX rfl rfl, IB_congr hB ?_ ?_ ?_ ?_, IP_congr hP ?_ ?_ ?_, IO_congr hO ?_ ?_ ?_ ?_, ?_⟩
        · unfold F_X9_see; rw [has_k hc hk (by omega)]
          simp only [Option.bind_some, if_neg (show ¬ (1 : Int32) = 0 by decide), if_neg hne]
          rw [isSeen_k hc hk h24]
          cases bt (s.1 1 2) k <;> simp [hset]
        · unfold F_X10_see
          rw [isThing_k (s := (xup s.1 1 2 m2, s.2)) (by show xup s.1 1 2 m2 94 1 = nI nT; rw [xup_ne (by omega)]; exact hm) hk (by omega)]
          simp only [Option.bind_some, if_neg (show ¬ (1 : Int32) = 0 by decide), if_neg hne, if_neg (grd (n := 24) (show k < 24 by omega) (by omega))]
          rw [nI_clamp (by omega), xup_ne (show 97 ≠ 1 by omega), hv, hb1]
          cases bt (s.1 1 2) k <;> simp
        · refine ⟨h1, h24, ?_, ?_, fun t htn => ?_, ?_, ?_, fun t h h' => ?_⟩
          · show xup (xup s.1 1 2 m2) 97 k b2 1 3 = nI nT
            rw [xup_ne (by omega), xup_j (by omega)]; exact hc
          · show xup (xup s.1 1 2 m2) 97 k b2 94 1 = nI nT
            rw [xup_ne (by omega), xup_ne (by omega)]; exact hm
          · obtain ⟨g1, g2, g3, g4, g5⟩ := ht t htn
            refine ⟨?_, ?_, ?_, ?_, ?_⟩
            · show xup (xup s.1 1 2 m2) 97 k b2 2 t = xup (xup s.1 1 2 m2) 97 k b2 96 t
              rw [xup_ne (by omega), xup_ne (by omega), xup_ne (by omega), xup_ne (by omega)]; exact g1
            · show ∃ k', k' < 4 ∧ xup (xup s.1 1 2 m2) 97 k b2 96 t = nI k'
              rw [xup_ne (by omega), xup_ne (by omega)]; exact g2
            · show xup (xup s.1 1 2 m2) 97 k b2 3 t = xup (xup s.1 1 2 m2) 97 k b2 98 t
              rw [xup_ne (by omega), xup_ne (by omega), xup_ne (by omega), xup_ne (by omega)]; exact g3
            · show xup (xup s.1 1 2 m2) 97 k b2 98 t = -4 ∨ ∃ o, o < nT ∧ xup (xup s.1 1 2 m2) 97 k b2 98 t = nI o
              rw [xup_ne (by omega), xup_ne (by omega)]; exact g4
            · show xup (xup s.1 1 2 m2) 97 k b2 97 t = if bt (xup (xup s.1 1 2 m2) 97 k b2 1 2) t then 1 else 0
              rw [xup_eq, xup_ne (show 1 ≠ 97 by omega), xup_eq, if_pos rfl, xup_ne (show 97 ≠ 1 by omega), hm2 t (by omega)]
              by_cases e : t = k
              · rw [if_pos e, if_pos e]; rcases hb with rfl | rfl <;> rfl
              · rw [if_neg e, if_neg e]; exact g5
          · show xup (xup s.1 1 2 m2) 97 k b2 96 0 = 1
            rw [xup_ne (by omega), xup_ne (by omega)]; exact hk0
          · show bt (xup (xup s.1 1 2 m2) 97 k b2 1 2) 0 = true
            rw [xup_ne (by omega), xup_eq, if_pos rfl, hm2 0 (by omega), if_neg (fun q => hz q.symm)]; exact hs0
          · show xup (xup s.1 1 2 m2) 97 k b2 3 t = -4
            rw [xup_ne (by omega), xup_ne (by omega)]; exact hown t h h'
        all_goals ((try intro c q1 q2); (try dsimp only); (repeat rw [xup_ne (by omega)]); first | done | exact hF)
      rcases hb with rfl | rfl
      · refine key _ (fun i hi => ?_) (by unfold F_X6_setSeen; rw [bitOf_k (by omega)]; rfl)
        rw [b_clr (by omega) hi]
        by_cases e : i = k <;> simp [e]
      · refine key _ (fun i hi => ?_) (by unfold F_X6_setSeen; rw [bitOf_k (by omega)]; rfl)
        rw [b_set (by omega) hi]
        by_cases e : i = k <;> simp [e]
  · refine ⟨-1, s, s, ?_, ?_, hinv⟩
    · unfold F_X9_see; rw [has_o hc hout]; rfl
    · unfold F_X10_see; rw [isThing_o hm (by omega) hout]; rfl

/-- what stays when only cells of things are changed -/
theorem INV_things {s : St} {I' : Nat → Nat → Int32} {nT nT' nW nB nO : Nat} (hn : nT ≤ nT') (hT : IT (I', s.2) nT') (hW : IW s nW) (hX : IX s) (hB : IB s nB) (hP : IP s nT) (hO : IO s nT nO) (hF : s.1 80 9 = s.1 94 17)
    (h : ∀ c, c ≠ 1 → c ≠ 2 → c ≠ 3 → c ≠ 94 → c ≠ 96 → c ≠ 97 → c ≠ 98 → I' c = s.1 c) (h4 : ∀ j, j ≠ 1 → I' 94 j = s.1 94 j) : INV (I', s.2) :=
  ⟨nT', nW, nB, nO, hT, IW_congr hW (fun c a b => h c (by omega) (by omega) (by omega) (by omega) (by omega) (by omega) (by omega)) (fun c a b => h c (by omega) (by omega) (by omega) (by omega) (by omega) (by omega) (by omega)) (h4 5 (by omega)) rfl rfl, IX_congr hX rfl rfl, IB_congr hB (h 12 (by omega) (by omega) (by omega) (by omega) (by omega) (by omega) (by omega)) (h 13 (by omega) (by omega) (by omega) (by omega) (by omega) (by omega) (by omega)) (h 104 (by omega) (by omega) (by omega) (by omega) (by omega) (by omega) (by omega)) (h4 12 (by omega)),
    IP_congr (IP_mono hP hn) (fun c a b => h c (by omega) (by omega) (by omega) (by omega) (by omega) (by omega) (by omega)) (h 114 (by omega) (by omega) (by omega) (by omega) (by omega) (by omega) (by omega)) (h 115 (by omega) (by omega) (by omega) (by omega) (by omega) (by omega) (by omega)),
    IO_congr (IO_mono hO hn) (h 23 (by omega) (by omega) (by omega) (by omega) (by omega) (by omega) (by omega)) (fun c a b => h c (by omega) (by omega) (by omega) (by omega) (by omega) (by omega) (by omega)) (fun c a b => h c (by omega) (by omega) (by omega) (by omega) (by omega) (by omega) (by omega)) (fun j a b => h4 j (by omega)),
    by show I' 80 9 = I' 94 17; rw [h 80 (by omega) (by omega) (by omega) (by omega) (by omega) (by omega) (by omega), h4 17 (by omega)]; exact hF⟩
theorem op_turn : Op_turn INV := by
  intro s a1 a2 hinv
  obtain ⟨nT, nW, nB, nO, hT, hW, hX, hB, hP, hO, hF⟩ := id hinv
  obtain ⟨h1, h24, hc, hm, ht, hk0, hs0, hown⟩ := id hT
  rcases ix_out (a := a1) (n := nT) (m := 24) (by omega) h24 with ⟨k, hk, rfl⟩ | hout
  · by_cases hz : k = 0
    · refine ⟨-1, s, s, ?_, ?_, hinv⟩
      · unfold F_X9_turn; rw [has_k hc hk (by omega)]; simp [hz, nI_0]
      · unfold F_X10_turn; rw [isThing_k hm hk (by omega)]; simp [hz, nI_0]
    · have hne : ¬ nI k = 0 := fun q => hz ((nI_eq0 (by omega)).mp q)
      obtain ⟨q1, q2, q3, q4⟩ := kf hk (by omega)
      rcases ix_out (a := a2) (n := 4) (m := 24) (by omega) (by omega) with ⟨v, hv, rfl⟩ | hout
      · refine ⟨s.1 96 k, (xup s.1 2 k (nI v), s.2), (xup (xup s.1 2 k (nI v)) 96 k (nI v), s.2), ?_, ?_, INV_things (Nat.le_refl nT) ?_ hW hX hB hP hO hF ?_ ?_⟩
        · unfold F_X9_turn
          rw [has_k hc hk (by omega)]
          simp only [Option.bind_some, if_neg (show ¬ (1 : Int32) = 0 by decide), if_neg hne]
          rw [nI4, isBelow_k hv (by omega)]
          simp only [Option.bind_some, if_neg (show ¬ (1 : Int32) = 0 by decide)]
          unfold F_X6_kindOf F_X6_setKind
          rw [hc, if_neg q1, if_neg q2, if_neg (grd (n := 24) (show k < 24 by omega) (by omega)), q4]
          simp only [Option.bind_some]
          have g24 : ¬ (nI k < 0 ∨ 24 ≤ k) := fun q => q.elim q1 (fun q => by omega)
          rw [hc, if_neg q1, if_neg q2, if_neg g24, (ht k hk).1]
          rfl
        · unfold F_X10_turn
          rw [isThing_k (s := (xup s.1 2 k (nI v), s.2)) (by show xup s.1 2 k (nI v) 94 1 = nI nT; rw [xup_ne (by omega)]; exact hm) hk (by omega)]
          simp only [Option.bind_some, if_neg (show ¬ (1 : Int32) = 0 by decide), if_neg hne]
          rw [isIn_k nI3 hv (by omega)]
          have g24 : ¬ (nI k < 0 ∨ 24 ≤ k) := fun q => q.elim q1 (fun q => by omega)
          simp only [Option.bind_some, if_neg (show ¬ (1 : Int32) = 0 by decide), q4]
          rw [if_neg g24, xup_ne (show 96 ≠ 2 by omega)]
        · refine ⟨h1, h24, ?_, ?_, fun t htn => ?_, ?_, ?_, fun t h h' => ?_⟩
          · show xup (xup s.1 2 k (nI v)) 96 k (nI v) 1 3 = nI nT
            rw [xup_ne (by omega), xup_ne (by omega)]; exact hc
          · show xup (xup s.1 2 k (nI v)) 96 k (nI v) 94 1 = nI nT
            rw [xup_ne (by omega), xup_ne (by omega)]; exact hm
          · obtain ⟨g1, g2, g3, g4, g5⟩ := ht t htn
            have e2 : xup (xup s.1 2 k (nI v)) 96 k (nI v) 2 t = if t = k then nI v else s.1 2 t := by rw [xup_ne (by omega), xup_eq]
            have e6 : xup (xup s.1 2 k (nI v)) 96 k (nI v) 96 t = if t = k then nI v else s.1 96 t := by rw [xup_eq, xup_ne (show 96 ≠ 2 by omega)]
            refine ⟨?_, ?_, ?_, ?_, ?_⟩
            · show xup (xup s.1 2 k (nI v)) 96 k (nI v) 2 t = xup (xup s.1 2 k (nI v)) 96 k (nI v) 96 t
              rw [e2, e6, g1]
            · show ∃ k', k' < 4 ∧ xup (xup s.1 2 k (nI v)) 96 k (nI v) 96 t = nI k'
              rw [e6]
              by_cases e : t = k
              · exact ⟨v, hv, by rw [if_pos e]⟩
              · rw [if_neg e]; exact g2
            · show xup (xup s.1 2 k (nI v)) 96 k (nI v) 3 t = xup (xup s.1 2 k (nI v)) 96 k (nI v) 98 t
              rw [xup_ne (by omega), xup_ne (by omega), xup_ne (by omega), xup_ne (by omega)]; exact g3
            · show xup (xup s.1 2 k (nI v)) 96 k (nI v) 98 t = -4 ∨ ∃ o, o < nT ∧ xup (xup s.1 2 k (nI v)) 96 k (nI v) 98 t = nI o
              rw [xup_ne (by omega), xup_ne (by omega)]; exact g4
            · show xup (xup s.1 2 k (nI v)) 96 k (nI v) 97 t = if bt (xup (xup s.1 2 k (nI v)) 96 k (nI v) 1 2) t then 1 else 0
              rw [xup_ne (by omega), xup_ne (by omega), xup_ne (by omega), xup_ne (by omega)]; exact g5
          · show xup (xup s.1 2 k (nI v)) 96 k (nI v) 96 0 = 1
            rw [xup_eq, xup_ne (show 96 ≠ 2 by omega), if_neg (fun q => hz q.symm)]; exact hk0
          · show bt (xup (xup s.1 2 k (nI v)) 96 k (nI v) 1 2) 0 = true
            rw [xup_ne (by omega), xup_ne (by omega)]; exact hs0
          · show xup (xup s.1 2 k (nI v)) 96 k (nI v) 3 t = -4
            rw [xup_ne (by omega), xup_ne (by omega)]; exact hown t h h'
        · intro c a1 a2 a3 a4 a6 a7 a8; rw [xup_ne (by omega), xup_ne (by omega)]
        · intro j hj; rw [xup_ne (by omega), xup_ne (by omega)]
      · refine ⟨-1, s, s, ?_, ?_, hinv⟩
        · unfold F_X9_turn; rw [has_k hc hk (by omega)]
          simp only [Option.bind_some, if_neg (show ¬ (1 : Int32) = 0 by decide), if_neg hne]
          rw [nI4, isBelow_o hout]; rfl
        · unfold F_X10_turn; rw [isThing_k hm hk (by omega)]
          simp only [Option.bind_some, if_neg (show ¬ (1 : Int32) = 0 by decide), if_neg hne]
          rw [isIn_o nI3 (by omega) hout]; rfl
  · refine ⟨-1, s, s, ?_, ?_, hinv⟩
    · unfold F_X9_turn; rw [has_o hc hout]; rfl
    · unfold F_X10_turn; rw [isThing_o hm (by omega) hout]; rfl
theorem op_thing : Op_thing INV := by
  intro s a1 hinv
  obtain ⟨nT, nW, nB, nO, hT, hW, hX, hB, hP, hO, hF⟩ := id hinv
  obtain ⟨h1, h24, hc, hm, ht, hk0, hs0, hown⟩ := id hT
  rcases ix_out (a := a1) (n := 4) (m := 24) (by omega) (by omega) with ⟨v, hv, rfl⟩ | hout
  · by_cases hf : nT = 24
    · have e24 : s.1 1 3 = 24 := by rw [hc, hf]; rfl
      have e24' : s.1 94 1 = 24 := by rw [hm, hf]; rfl
      refine ⟨-3, s, s, ?_, ?_, hinv⟩
      · unfold F_X9_thing; rw [nI4, isBelow_k hv (by omega)]
        simp only [Option.bind_some, if_neg (show ¬ (1 : Int32) = 0 by decide)]
        unfold F_X6_add
        rw [e24, if_neg (by decide)]; rfl
      · unfold F_X10_thing; rw [isIn_k nI3 hv (by omega)]
        simp only [Option.bind_some, if_neg (show ¬ (1 : Int32) = 0 by decide)]
        rw [if_pos e24']
    · have hlt : nT < 24 := by omega
      obtain ⟨q1, q2, q3, q4⟩ := kf hlt (by omega)
      have g24 := grd hlt (by omega)
      have ne24 : ¬ nI nT = (24 : Int32) := fun q => hf (nI_inj (b := 24) (by omega) (by omega) q)
      have lt24 : nI nT < (24 : Int32) := nI_lt (b := 24) hlt (by omega)
      have hp1 : nI nT + 1 - 1 = nI nT := by rw [nI_1, nI_pred]
      refine ⟨nI nT, (xup (xup (xup s.1 2 nT (nI v)) 1 2 (s.1 1 2 ||| ((1 : Int32) <<< (nI nT &&& 31)))) 1 3 (nI nT + 1), s.2), (xup (xup (xup (xup (xup (xup (xup s.1 2 nT (nI v)) 1 2 (s.1 1 2 ||| ((1 : Int32) <<< (nI nT &&& 31)))) 1 3 (nI nT + 1)) 96 nT (nI v)) 97 nT 1) 98 nT (-4)) 94 1 (nI nT + 1), s.2), ?_, ?_, INV_things (nT := nT) (nT' := nT + 1) (by omega) ?_ hW hX hB hP hO hF ?_ ?_⟩
      · unfold F_X9_thing; rw [nI4, isBelow_k hv (by omega)]
        simp only [Option.bind_some, if_neg (show ¬ (1 : Int32) = 0 by decide)]
        unfold F_X6_add
        rw [hc, if_pos lt24, if_neg g24, q4]
        dsimp only
        rw [xup_ne (show 1 ≠ 2 by omega), hc, bitOf_k hlt]
        simp only [Option.bind_some]
        simp [xup_ap, hc, hp1]
      · unfold F_X10_thing; rw [isIn_k nI3 hv (by omega)]
        simp only [Option.bind_some, if_neg (show ¬ (1 : Int32) = 0 by decide)]
        have e : xup (xup (xup s.1 2 nT (nI v)) 1 2 (s.1 1 2 ||| ((1 : Int32) <<< (nI nT &&& 31)))) 1 3 (nI nT + 1) 94 1 = nI nT := by
          rw [xup_ne (by omega), xup_ne (by omega), xup_ne (by omega)]; exact hm
        rw [e, if_neg ne24, if_neg g24, q4]
        have n24 : ¬ 24 ≤ nT := by omega
        simp [xup_ap, hm, hp1, q1, q4, n24]
      · refine ⟨by omega, by omega, ?_, ?_, fun t htn => ?_, ?_, ?_, fun t h h' => ?_⟩
        · simp [xup_ap, nI_1]
        · simp [xup_ap, nI_1]
        · by_cases e : t = nT
          · subst e
            refine ⟨by simp [xup_ap], ⟨v, hv, by simp [xup_ap]⟩, ?_, Or.inl (by simp [xup_ap]), ?_⟩
            · simp [xup_ap]; exact hown t (Nat.le_refl _) hlt
            · have hbt : bt (s.1 1 2 ||| (1 : Int32) <<< (nI t &&& 31)) t = true := by rw [b_set (by omega) (by omega)]; simp
              simp [xup_ap, hbt]
          · have htl : t < nT := by omega
            obtain ⟨g1, g2, g3, g4, g5⟩ := ht t htl
            refine ⟨by simp [xup_ap, e]; exact g1, ?_, by simp [xup_ap, e]; exact g3, ?_, ?_⟩
            · obtain ⟨k', a, b⟩ := g2; exact ⟨k', a, by simp [xup_ap, e]; exact b⟩
            · rcases g4 with g4 | ⟨o, a, b⟩
              · exact Or.inl (by simp [xup_ap, e]; exact g4)
              · exact Or.inr ⟨o, by omega, by simp [xup_ap, e]; exact b⟩
            · have hbt : bt (s.1 1 2 ||| (1 : Int32) <<< (nI nT &&& 31)) t = bt (s.1 1 2) t := by rw [b_set (by omega) (by omega)]; simp [e]
              simp [xup_ap, e, hbt]; exact g5
        · have e : ¬ 0 = nT := by omega
          simp [xup_ap, e]; exact hk0
        · have hbt : bt (s.1 1 2 ||| (1 : Int32) <<< (nI nT &&& 31)) 0 = true := by rw [b_set (by omega) (by omega), hs0]; rfl
          simp [xup_ap, hbt]
        · simp [xup_ap]; exact hown t (by omega) h'
      · intro c a1 a2 a3 a4 a6 a7 a8; (repeat rw [xup_ne (by omega)])
      · intro j hj; rw [xup_j hj]; (repeat rw [xup_ne (by omega)])
  · refine ⟨-1, s, s, ?_, ?_, hinv⟩
    · unfold F_X9_thing; rw [nI4, isBelow_o hout]; rfl
    · unfold F_X10_thing; rw [isIn_o nI3 (by omega) hout]; rfl

theorem op_own : Op_own INV := by
  intro s a1 a2 hinv
  obtain ⟨nT, nW, nB, nO, hT, hW, hX, hB, hP, hO, hF⟩ := id hinv
  obtain ⟨h1, h24, hc, hm, ht, hk0, hs0, hown⟩ := id hT
  have noop : ∀ (h : F_X9_own a1 a2 s = some (-1, s)) (h' : F_X10_own a1 a2 s = some (-1, s)), ∃ (r : Int32) (s1 s2 : St), F_X9_own a1 a2 s = some (r, s1) ∧ F_X10_own a1 a2 s1 = some (r, s2) ∧ INV s2 := fun h h' => ⟨-1, s, s, h, h', hinv⟩
  rcases ix_out (a := a1) (n := nT) (m := 24) (by omega) h24 with ⟨k, hk, rfl⟩ | hout
  · obtain ⟨q1, q2, q3, q4⟩ := kf hk (by omega)
    have n24 : ¬ 24 ≤ k := by omega
    have km4 : ¬ nI k = -4 := nI_m4 (by omega)
    have good : (a2 = -4 ∨ ∃ o, o < nT ∧ a2 = nI o) → ¬ nI k = a2 → ∃ (r : Int32) (s1 s2 : St), F_X9_own (nI k) a2 s = some (r, s1) ∧ F_X10_own (nI k) a2 s1 = some (r, s2) ∧ INV s2 := by
      intro ha hne
      refine ⟨0, (xup s.1 3 k a2, s.2), (xup (xup s.1 3 k a2) 98 k a2, s.2), ?_, ?_, INV_things (Nat.le_refl nT) ?_ hW hX hB hP hO hF ?_ ?_⟩
      · rcases ha with rfl | ⟨o, ho, rfl⟩
        · simp [F_X9_own, J_X9_own_8, J_X9_own_11, has_k hc hk (show nT ≤ 200 by omega), F_X6_setOwner, hc, q1, q2, q4, n24, km4]
        · have om4 : ¬ nI o = -4 := nI_m4 (by omega)
          simp [F_X9_own, J_X9_own_8, J_X9_own_11, has_k hc hk (show nT ≤ 200 by omega), has_k hc ho (show nT ≤ 200 by omega), F_X6_setOwner, hc, q1, q2, q4, n24, om4, hne]
      · have hm' : (xup s.1 3 k a2, s.2).1 94 1 = nI nT := by simp [xup_ap]; exact hm
        rcases ha with rfl | ⟨o, ho, rfl⟩
        · simp [F_X10_own, isThing_k hm' hk (show nT ≤ 200 by omega), q1, q4, n24, km4]
        · have om4 : ¬ nI o = -4 := nI_m4 (by omega)
          simp [F_X10_own, isThing_k hm' hk (show nT ≤ 200 by omega), isThing_k hm' ho (show nT ≤ 200 by omega), q1, q4, n24, om4, hne]
      · refine ⟨h1, h24, ?_, ?_, fun t htn => ?_, ?_, ?_, fun t h h' => ?_⟩
        · simp [xup_ap]; exact hc
        · simp [xup_ap]; exact hm
        · obtain ⟨g1, g2, g3, g4, g5⟩ := ht t htn
          refine ⟨by simp [xup_ap]; exact g1, by simp [xup_ap]; exact g2, ?_, ?_, by simp [xup_ap]; exact g5⟩
          · by_cases e : t = k <;> simp [xup_ap, e]
            rw [← g3]
          · by_cases e : t = k
            · simp [xup_ap, e]; exact ha
            · simp [xup_ap, e]; exact g4
        · simp [xup_ap]; exact hk0
        · simp [xup_ap]; exact hs0
        · have e : ¬ t = k := by omega
          simp [xup_ap, e]; exact hown t h h'
      · intro c a1 a2 a3 a4 a6 a7 a8; (repeat rw [xup_ne (by omega)])
      · intro j hj; (repeat rw [xup_ne (by omega)])
    by_cases h4 : a2 = -4
    · exact good (Or.inl h4) (by rw [h4]; exact km4)
    · rcases ix_out (a := a2) (n := nT) (m := 24) (by omega) h24 with ⟨o, ho, rfl⟩ | hout
      · by_cases hne : nI k = nI o
        · refine noop ?_ ?_
          · simp [F_X9_own, J_X9_own_8, J_X9_own_11, has_k hc hk (show nT ≤ 200 by omega), has_k hc ho (show nT ≤ 200 by omega), h4, hne]
          · simp [F_X10_own, isThing_k hm hk (show nT ≤ 200 by omega), isThing_k hm ho (show nT ≤ 200 by omega), h4, hne]
        · exact good (Or.inr ⟨o, ho, rfl⟩) hne
      · refine noop ?_ ?_
        · simp [F_X9_own, J_X9_own_8, J_X9_own_11, has_k hc hk (show nT ≤ 200 by omega), has_o hc hout, h4]
        · simp [F_X10_own, isThing_k hm hk (show nT ≤ 200 by omega), isThing_o hm (show nT ≤ 200 by omega) hout, h4]
  · refine noop ?_ ?_
    · by_cases h4 : a2 = -4
      · simp [F_X9_own, J_X9_own_8, J_X9_own_11, has_o hc hout, h4]
      · rcases ix_out (a := a2) (n := nT) (m := 24) (by omega) h24 with ⟨o, ho, rfl⟩ | hout2
        · simp [F_X9_own, J_X9_own_8, J_X9_own_11, has_o hc hout, has_k hc ho (show nT ≤ 200 by omega), h4]
        · simp [F_X9_own, J_X9_own_8, J_X9_own_11, has_o hc hout, has_o hc hout2, h4]
    · simp [F_X10_own, isThing_o hm (show nT ≤ 200 by omega) hout]
