section
variable {s : St} {E : LEnv} {T : Nat → List Nat} {a b p actor : Nat}
theorem isIn_y {x lo hi : Nat} (h1 : lo ≤ x) (h2 : x ≤ hi) (h : hi < 1000) : F_X10_isIn (nI x) (nI lo) (nI hi) s = some (1, s) := by
  rw [isInN (by omega) (by omega) (by omega), if_pos ⟨h1, h2⟩]
theorem isIn_n {x lo hi : Nat} (h : ¬ (lo ≤ x ∧ x ≤ hi)) (h1 : x < 1000) (h2 : lo < 1000) (h3 : hi < 1000) : F_X10_isIn (nI x) (nI lo) (nI hi) s = some (0, s) := by
  rw [isInN (by omega) (by omega) (by omega), if_neg h]
theorem ownP_o {k : Nat} (h : ¬ ((15 ≤ k ∧ k ≤ 18) ∨ k = 10)) : ownP E T k = fun _ => true := by funext t; unfold ownP; rw [if_neg h]
theorem ownP_my : ownP E T 18 = fun t => decide (eO E t = 0) := by funext t; unfold ownP; rw [if_pos (by omega), if_pos rfl]
/-- an item of the model follows what is asked -/
theorem item_m (hE : EOK E) (hs : ME s E) (hT : MT s T) (hTo : TOK E T) (ha : s.1 94 16 = nI a) (hl : a ≤ em E) (hac : eK E actor = 1 ∨ eK E actor = 2) (hal : actor < eT E) : FolM s (F_X10_item (nI actor) s) (sItem E T actor a) := by
  have h200 := hE.2.2.2.2.2.1
  have hc := enc_cases hE a
  have hlt := enc_lt hE a
  obtain ⟨g1, g2, g3⟩ := tok_g hE hs ha hl
  obtain ⟨t1, t2, t3⟩ := st16 hs hT (a + 1)
  by_cases k19 : ek E a = 19
  · unfold F_X10_item sItem
    rw [if_neg g1, g2, if_pos (show nI (encN E a) = 19 from tok_y hE (c := 19) (by omega)), if_neg (by omega), if_neg (by omega), if_pos k19, ha, nI_s]
    dsimp only
    have h0 : MI (xup s.1 94 16 (nI (a + 1)), s.2) (xup (xup s.1 94 16 (nI (a + 1))) 94 34 0, s.2) ((List.range 1).filter (allP E)) := by
      have : (List.range 1).filter (allP E) = [] := by
        rw [filt_s]; unfold allP; simp [hE.2.2.1]
      rw [this]; exact MI_0 _
    obtain ⟨s', q1, q2, q3, q4, q5⟩ := it23 (l2 := nI a) hE t1 hac hal 300 1 _ hE.1 (by have := hE.2.1; omega) h0
    rw [show (1 : Int32) = nI 1 from rfl, q1, Option.bind_some]
    apply FolM_st (x := nI (a + 1))
    have hle : (allL E).length ≤ 24 := by have := filt_len (allP E) (eT E); have := hE.2.1; unfold allL; unfold allP at *; omega
    rw [q5.1]
    by_cases c : allL E = []
    · rw [if_pos c, c, if_neg (by decide), nI_clamp (by omega)]
      obtain ⟨s'', w1, w2, w3, w4⟩ := fails_m (s := s') 4 (i := a) rfl
      refine ⟨fun e he => ?_, fun l b he => by cases he⟩
      cases he
      exact ⟨s'', by rw [show (4 : Int32) = nI 4 from rfl, w1, Option.bind_some, if_pos rfl], MF_trans q2 w2, w3, by rw [w4, q2.2.1 106 (by omega) (by omega)]⟩
    · have hp : 0 < (allL E).length := List.length_pos_iff.mpr c
      rw [if_neg c, if_pos (show (0 : Int32) < nI (allL E).length from nI_lt (a := 0) hp (by omega))]
      exact ⟨fun e he => (by cases he), fun l b he => by cases he; exact ⟨s', rfl, ⟨q2, q3, by rw [q4]; exact t3⟩, q5⟩⟩
  rw [item93 hE hs ha hl k19]
  unfold J_X10_item_93
  rw [show (8 : Int32) = nI 8 from rfl, show (11 : Int32) = nI 11 from rfl]
  -- a pronoun alone
  have hpro : (8 ≤ ek E a ∧ ek E a ≤ 11) → ¬ (ek E a = 10 ∧ ek E (a + 1) = 23) → FolM s ((F_X10_tableMeans (nI (encN E a) - nI 8) (nI a) (xup s.1 94 16 (s.1 94 16 + 1), s.2)).bind fun q203 => if q203.1 = 0 ∨ q203.1 = 1 then some (q203.1, q203.2) else none) (sItem E T actor a) := by
    intro k8 k10
    have e1 : encN E a = ek E a := by omega
    rw [e1, pk_sub k8.1, pn8 k8.1 k8.2, ha, nI_s]
    apply FolM_01
    apply FolM_st (x := nI (a + 1))
    have := tmF (a := a) hE t1 t2 hTo (pn_lt (ek E a)) hl t3
    have e2 : sItem E T actor a = (if T (pnOf (ek E a)) = [] then .error (6, a) else if (T (pnOf (ek E a))).all (eS E) = false then .error (7, a) else .ok (T (pnOf (ek E a)), a + 1)) := by
      unfold sItem
      by_cases c1 : T (pnOf (ek E a)) = []
      · rw [if_pos ⟨Or.inl k8, c1⟩, if_pos c1]
      rw [if_neg (fun q => c1 q.2), if_neg c1]
      by_cases c2 : (T (pnOf (ek E a))).all (eS E) = false
      · rw [if_pos ⟨Or.inl k8, c2⟩, if_pos c2]
      rw [if_neg (fun q => c2 q.2), if_neg c2, if_neg k19, if_neg (by omega), if_neg (by omega), if_neg (by omega)]
    rw [e2]; exact this
  -- the rest
  have hrest : ¬ (8 ≤ ek E a ∧ ek E a ≤ 11) ∨ (ek E a = 10 ∧ ek E (a + 1) = 23) → FolM s (J_X10_item_117 (nI actor) (nI a) (nI (encN E a)) s) (sItem E T actor a) := by
    intro hk
    unfold J_X10_item_117
    rw [show (12 : Int32) = nI 12 from rfl, show (14 : Int32) = nI 14 from rfl]
    by_cases k12 : 12 ≤ ek E a ∧ ek E a ≤ 14
    · have e1 : encN E a = ek E a := by omega
      rw [isIn_y (by omega) (by omega) (by omega), Option.bind_some]
      dsimp only
      rw [if_neg (by decide), ha, nI_s]
      have e2 : sItem E T actor a = .ok (if ek E a = 12 ∨ ek E a = 13 then [0] else if ek E a = 14 then [actor] else T (pnOf (ek E a)), a + 1) := by
        unfold sItem
        rw [if_neg (by omega), if_neg (by omega), if_neg (by omega), if_neg (by omega)]
      rw [e2]
      by_cases k14 : ek E a = 14
      · rw [if_pos (tok_y hE (c := 14) (by omega)), if_neg (show ¬ (ek E a = 12 ∨ ek E a = 13) by omega), if_pos k14]
        exact FolM_01 (FolM_st (oneF t3))
      · rw [if_neg (tok_n hE (c := 14) (by omega) (by omega)), if_pos (show ek E a = 12 ∨ ek E a = 13 by omega)]
        exact FolM_01 (FolM_st (oneF (x := 0) t3))
    · rw [isIn_n (by omega) (by omega) (by omega) (by omega), Option.bind_some]
      dsimp only
      rw [if_pos rfl]
      by_cases kw : (15 ≤ ek E a ∧ ek E a ≤ 17) ∨ ek E a = 10
      · have e1 : encN E a = ek E a := by omega
        have hm := em_lt hE (a := a) (by omega)
        have h177 := item177 (l3 := nI (encN E a)) hE hs hT hTo ha hm kw
        have e2 : sItem E T actor a = (if T (pnOf (ek E a)) = [] then .error (6, a) else if (T (pnOf (ek E a))).all (eS E) = false then .error (7, a) else sNames E (ownP E T (ek E a)) (a + 1)) := by
          unfold sItem
          by_cases c1 : T (pnOf (ek E a)) = []
          · rw [if_pos ⟨by omega, c1⟩, if_pos c1]
          rw [if_neg (fun q => c1 q.2), if_neg c1]
          by_cases c2 : (T (pnOf (ek E a))).all (eS E) = false
          · rw [if_pos ⟨by omega, c2⟩, if_pos c2]
          rw [if_neg (fun q => c2 q.2), if_neg c2, if_neg k19, if_pos (by omega), if_pos (by omega)]
        have e3 : J_X10_item_145 (nI a) (nI (encN E a)) s = J_X10_item_177 (nI a) (nI (encN E a)) 1 0 (nI (pnOf (ek E a))) s := by
          unfold J_X10_item_145 J_X10_item_148
          rw [if_neg (show ¬ nI (encN E a) = 18 from tok_n hE (c := 18) (by omega) (by omega))]
          exact pn15 kw e1
        rw [e2]
        by_cases k10 : ek E a = 10
        · rw [if_pos (show nI (encN E a) = 10 from tok_y hE (c := 10) (by omega)), e3]
          exact h177
        · rw [if_neg (show ¬ nI (encN E a) = 10 from tok_n hE (c := 10) (by omega) (by omega)), show (15 : Int32) = nI 15 from rfl, show (18 : Int32) = nI 18 from rfl, isIn_y (by omega) (by omega) (by omega), Option.bind_some]
          dsimp only
          rw [if_neg (by decide), e3]
          exact h177
      · have e2 : sItem E T actor a = sNames E (ownP E T (ek E a)) (if ((15 ≤ ek E a ∧ ek E a ≤ 18) ∨ ek E a = 10) ∨ ek E a ≤ 2 then a + 1 else a) := by
          unfold sItem
          rw [if_neg (by omega), if_neg (by omega), if_neg k19, if_pos (by omega)]
        rw [if_neg (show ¬ nI (encN E a) = 10 from tok_n hE (c := 10) (by omega) (by omega)), show (15 : Int32) = nI 15 from rfl, e2]
        by_cases k18 : ek E a = 18
        · have hm := em_lt hE (a := a) (by omega)
          rw [show F_X10_isIn (nI (encN E a)) (nI 15) 18 s = some (1, s) from isIn_y (hi := 18) (by omega) (by omega) (by omega), Option.bind_some]
          dsimp only
          rw [if_neg (by decide), if_pos (by omega), k18, ownP_my]
          unfold J_X10_item_145 J_X10_item_148
          rw [if_pos (show nI (encN E a) = 18 from tok_y hE (c := 18) (by omega))]
          unfold J_X10_item_155
          rw [if_neg (by decide), if_neg (by decide), j182_w, ha, nI_s]
          exact FolM_st (names_my hE t1 t3 (by omega))
        · rw [show F_X10_isIn (nI (encN E a)) (nI 15) 18 s = some (0, s) from isIn_n (hi := 18) (by omega) (by omega) (by omega) (by omega), Option.bind_some]
          dsimp only
          rw [if_pos rfl, ownP_o (by omega)]
          unfold J_X10_item_148
          rw [if_neg (show ¬ nI (encN E a) = 18 from tok_n hE (c := 18) (by omega) (by omega))]
          unfold J_X10_item_155
          rw [if_pos rfl]
          unfold J_X10_item_182
          rw [if_pos rfl]
          by_cases k2 : ek E a ≤ 2
          · have hm := em_lt hE (a := a) (by omega)
            rw [show F_X10_isIn (nI (encN E a)) 0 2 s = some (1, s) from isIn_y (lo := 0) (hi := 2) (by omega) (by omega) (by omega), Option.bind_some]
            dsimp only
            rw [if_neg (by decide), if_pos (by omega)]
            unfold J_X10_item_189
            dsimp only
            rw [ha, nI_s]
            exact FolM_st (names_any hE t1 t3 (by omega))
          · rw [show F_X10_isIn (nI (encN E a)) 0 2 s = some (0, s) from isIn_n (lo := 0) (hi := 2) (by omega) (by omega) (by omega) (by omega), Option.bind_some]
            dsimp only
            rw [if_pos rfl, if_neg (by omega)]
            exact names_any hE hs ha hl
  by_cases k8 : 8 ≤ ek E a ∧ ek E a ≤ 11
  · rw [isIn_y (by omega) (by omega) (by omega), Option.bind_some]
    dsimp only
    rw [if_neg (by decide)]
    by_cases k10 : ek E a = 10
    · rw [if_pos (show nI (encN E a) = 10 from tok_y hE (c := 10) (by omega))]
      by_cases kn : ek E (a + 1) = 23
      · rw [if_pos kn, if_neg (by decide)]
        exact hrest (Or.inr ⟨k10, kn⟩)
      · rw [if_neg kn, if_pos rfl]
        exact hpro k8 (fun q => kn q.2)
    · rw [if_neg (show ¬ nI (encN E a) = 10 from tok_n hE (c := 10) (by omega) (by omega))]
      exact hpro k8 (fun q => k10 q.1)
  · rw [isIn_n (by omega) (by omega) (by omega) (by omega), Option.bind_some]
    dsimp only
    rw [if_pos rfl]
    exact hrest (Or.inl k8)
end
