section
variable {s : St} {E : LEnv} {T : Nat → List Nat} {a b p actor : Nat}
theorem FolM_01 {F : Option (Int32 × St)} {R : Except (Nat × Nat) (List Nat × Nat)} (h : FolM s F R) : FolM s (F.bind fun q => if q.1 = 0 ∨ q.1 = 1 then some (q.1, q.2) else none) R := by
  refine ⟨fun e he => ?_, fun l b he => ?_⟩
  · obtain ⟨s', q1, q2⟩ := h.1 e he
    exact ⟨s', if01 (P := True) q1 (Or.inl rfl), q2⟩
  · obtain ⟨s', q1, q2⟩ := h.2 l b he
    exact ⟨s', if01 (P := True) q1 (Or.inr rfl), q2⟩
/-- a step on, in the model -/
theorem FolM_st {F : Option (Int32 × St)} {R : Except (Nat × Nat) (List Nat × Nat)} {x : Int32} (h : FolM (xup s.1 94 16 x, s.2) F R) : FolM s F R := FolM_of (MF_94 s (by omega)) (by dsimp only; rw [xup_j (by omega)]) h
theorem tmF (hE : EOK E) (hs : ME s E) (hT : MT s T) (hTo : TOK E T) (hp : p < 4) (hl : a ≤ em E) (hb : s.1 94 16 = nI b) : FolM s (F_X10_tableMeans (nI p) (nI a) s) (if T p = [] then .error (6, a) else if (T p).all (eS E) = false then .error (7, a) else .ok (T p, b)) := by
  obtain ⟨h1, h2, h3⟩ := tm_k (a := a) hE hs hT hTo hp hl
  by_cases c1 : T p = []
  · rw [if_pos c1]
    exact ⟨fun e he => by cases he; exact h1 c1, fun l b he => by cases he⟩
  · rw [if_neg c1]
    by_cases c2 : (T p).all (eS E) = false
    · rw [if_pos c2]
      exact ⟨fun e he => by cases he; exact h2 c1 c2, fun l b he => by cases he⟩
    · rw [if_neg c2]
      obtain ⟨s', q1, q2, q3, q4, q5⟩ := h3 c1 (by simpa using c2)
      exact ⟨fun e he => (by cases he), fun l b' he => by cases he; exact ⟨s', q1, ⟨q2, q3, by rw [q4]; exact hb⟩, q5⟩⟩
theorem oneF {x b : Nat} (hb : s.1 94 16 = nI b) : FolM s (F_X10_oneMeans (nI x) s) (.ok ([x], b)) := by
  refine ⟨fun e he => (by cases he), fun l b' he => ?_⟩
  cases he
  refine ⟨_, rfl, ⟨⟨rfl, fun c q1 q2 => ?_, fun j q1 q2 q3 q4 => ?_⟩, ?_, ?_⟩, ?_, fun k y hy => ?_⟩
  · dsimp only; rw [xup_ne q1, xup_ne q2]
  · dsimp only; rw [xup_j q4, xup_ne (by omega)]
  · dsimp only; rw [xup_j (by omega), xup_ne (by omega)]
  · dsimp only; rw [xup_j (by omega), xup_ne (by omega)]; exact hb
  · dsimp only; rw [xup_eq]; rfl
  · have hk : k = 0 := by
      have := (List.getElem?_eq_some_iff.mp hy).1; simpa using this
    rw [hk] at hy ⊢
    have hy : some x = some y := hy
    cases hy
    dsimp only; rw [xup_ne (by omega)]
    exact xup_eq _ _ _ _ _ |>.trans (if_pos rfl)
theorem st16 (hs : ME s E) (hT : MT s T) (x : Nat) : ME (xup s.1 94 16 (nI x), s.2) E ∧ MT (xup s.1 94 16 (nI x), s.2) T ∧ (xup s.1 94 16 (nI x), s.2).1 94 16 = nI x :=
  ⟨ME_MF hs (MF_94 s (by omega)), MT_MF hT (MF_94 s (by omega)), by dsimp only; rw [xup_eq, if_pos rfl]⟩
/-- names of anything -/
theorem names_any (hE : EOK E) (hs : ME s E) (ha : s.1 94 16 = nI a) (hl : a ≤ em E) : FolM s (J_X10_item_195 0 0 s) (sNames E (fun _ => true) a) := by
  apply names_m hE hs ha hl
  intro s' m m1 m2
  refine ⟨0, it230_0 (Or.inl rfl), fun t ht => ?_⟩
  exact flg_0 (ME_MF hs m) ht
theorem names_my (hE : EOK E) (hs : ME s E) (ha : s.1 94 16 = nI a) (hl : a ≤ em E) : FolM s (J_X10_item_195 1 1 s) (sNames E (fun t => decide (eO E t = 0)) a) := by
  apply names_m hE hs ha hl
  intro s' m m1 m2
  refine ⟨0, it230_0 (Or.inr (by decide)), fun t ht => ?_⟩
  rw [if_neg (by decide), flg_1 (M := [0]) hE (ME_MF hs m) ht (by simp; exact hE.1) (fun i hi => by rw [b_1 i hi]; simp)]
  simp
theorem names_of {M : List Nat} (hE : EOK E) (hs : ME s E) (ha : s.1 94 16 = nI a) (hl : a ≤ em E) (hM : ML (s.1 116) (s.1 94 34) M) (hln : M.length ≤ 24) (hx : ∀ x ∈ M, x < eT E) : FolM s (J_X10_item_195 1 0 s) (sNames E (fun t => decide (eO E t ∈ M)) a) := by
  have h24 := hE.2.1
  apply names_m hE hs ha hl
  intro s' m m1 m2
  obtain ⟨X, q1, q2⟩ := it230 (s := s') (M := M) (l7 := nI a) (by rw [m1, m2]; exact hM) hln (fun x h => by have := hx x h; omega) 300 0 0 (by omega) (by omega)
  rw [show nI 0 = (0 : Int32) from rfl] at q1
  refine ⟨X, q1, fun t ht => ?_⟩
  rw [if_pos rfl]
  exact flg_1 hE (ME_MF hs m) ht hx (fun i hi => by rw [q2 i hi, b_0]; simp)
theorem pn8 {k : Nat} (h1 : 8 ≤ k) (h2 : k ≤ 11) : k - 8 = pnOf k := by
  obtain rfl | rfl | rfl | rfl : k = 8 ∨ k = 9 ∨ k = 10 ∨ k = 11 := by omega
  all_goals rfl
theorem item93 (hE : EOK E) (hs : ME s E) (ha : s.1 94 16 = nI a) (hl : a ≤ em E) (h19 : ek E a ≠ 19) : F_X10_item (nI actor) s = J_X10_item_93 (nI actor) (nI a) (nI (encN E a)) (if ek E (a + 1) = 23 then 1 else 0) s := by
  have h200 := hE.2.2.2.2.2.1
  obtain ⟨g1, g2, g3⟩ := tok_g hE hs ha hl
  have hc := enc_cases hE a
  unfold F_X10_item
  rw [if_neg g1, g2, if_neg (show ¬ nI (encN E a) = 19 from tok_n hE (c := 19) (by omega) (by omega))]
  by_cases e : ek E a = 28
  · rw [if_pos (show nI (encN E a) = 33 from tok_y hE (c := 33) (by omega)), ha]
    have : ek E (a + 1) = 28 := by
      apply hE.2.2.2.2.2.2.1
      rcases Nat.lt_or_ge a (em E) with q | q
      · have := hE.2.2.2.2.2.2.2.1 a q; omega
      · omega
    rw [if_neg (by omega)]; rfl
  · rw [if_neg (show ¬ nI (encN E a) = 33 from tok_n hE (c := 33) (by omega) (by omega)), ha, nI_s]
    have hm := em_lt hE (a := a) e
    rw [if_neg (grd (n := 201) (by omega) (by omega)), nI_clamp (by omega), hs.2.2.2.2.2.2.1 (a + 1) (by omega), show (0 : Int32) = nI 0 from rfl, isSort_k hE hs (by omega), Option.bind_some]
    dsimp only
    by_cases e2 : ek E (a + 1) = 23
    · rw [if_pos e2, if_pos e2, if_neg (by decide)]
    · rw [if_neg e2, if_neg e2, if_pos (by rfl)]; rfl
theorem j182_w {l3 l6 : Int32} : J_X10_item_182 l3 1 l6 s = J_X10_item_195 1 l6 (xup s.1 94 16 (s.1 94 16 + 1), s.2) := by
  unfold J_X10_item_182 J_X10_item_189
  rw [if_neg (by decide)]
/-- his, her, its, their: the names behind -/
theorem item177 (hE : EOK E) (hs : ME s E) (hT : MT s T) (hTo : TOK E T) (ha : s.1 94 16 = nI a) (hl : a < em E) (hk : (15 ≤ ek E a ∧ ek E a ≤ 17) ∨ ek E a = 10) {l3 : Int32} :
    FolM s (J_X10_item_177 (nI a) l3 1 0 (nI (pnOf (ek E a))) s) (if T (pnOf (ek E a)) = [] then .error (6, a) else if (T (pnOf (ek E a))).all (eS E) = false then .error (7, a) else sNames E (ownP E T (ek E a)) (a + 1)) := by
  have hp := pn_lt (ek E a)
  obtain ⟨h1, h2⟩ := tmF (a := a) hE hs hT hTo hp (by omega) ha
  unfold J_X10_item_177
  by_cases c1 : T (pnOf (ek E a)) = []
  · rw [if_pos c1] at h1 ⊢
    obtain ⟨s', q1, q2⟩ := h1 _ rfl
    rw [q1, Option.bind_some]
    dsimp only
    rw [if_pos rfl]
    exact ⟨fun e he => by cases he; exact ⟨s', rfl, q2⟩, fun l b he => by cases he⟩
  rw [if_neg c1] at h1 h2 ⊢
  by_cases c2 : (T (pnOf (ek E a))).all (eS E) = false
  · rw [if_pos c2] at h1 ⊢
    obtain ⟨s', q1, q2⟩ := h1 _ rfl
    rw [q1, Option.bind_some]
    dsimp only
    rw [if_pos rfl]
    exact ⟨fun e he => by cases he; exact ⟨s', rfl, q2⟩, fun l b he => by cases he⟩
  rw [if_neg c2] at h2 ⊢
  obtain ⟨s', q1, ⟨q2, q3, q4⟩, q5⟩ := h2 _ _ rfl
  rw [q1, Option.bind_some]
  dsimp only
  rw [if_neg (by decide), j182_w, q4, nI_s]
  obtain ⟨g1, -, g3⟩ := st16 (ME_MF hs q2) (MT_MF hT q2) (a + 1)
  have hM : ML ((xup s'.1 94 16 (nI (a + 1)), s'.2).1 116) ((xup s'.1 94 16 (nI (a + 1)), s'.2).1 94 34) (T (pnOf (ek E a))) := by
    dsimp only; rw [xup_ne (by omega), xup_j (by omega)]; exact q5
  have hn := names_of hE g1 g3 (by omega) hM (TOK_len hE hTo hp) (hTo _ hp).2
  have hown : ownP E T (ek E a) = fun t => decide (eO E t ∈ T (pnOf (ek E a))) := by
    funext t; unfold ownP; rw [if_pos (by omega), if_neg (by omega)]
  rw [hown]
  exact FolM_of q2 q3 (FolM_st hn)
theorem pn15 {k : Nat} (hk : (15 ≤ k ∧ k ≤ 17) ∨ k = 10) {l2 : Int32} {tk : Nat} (e : tk = k) : J_X10_item_155 l2 (nI tk) 1 0 s = J_X10_item_177 l2 (nI tk) 1 0 (nI (pnOf k)) s := by
  subst e
  obtain rfl | rfl | rfl | rfl : tk = 10 ∨ tk = 15 ∨ tk = 16 ∨ tk = 17 := by omega
  all_goals rfl
end
