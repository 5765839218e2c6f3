section
variable {s : St} {E : LEnv} {T : Nat → List Nat} {a b p actor : Nat}
/-- what is said of the things that fit -/
def tlN (a : Int32) (q : St) : Option (Int32 × St) := if (q.1 94 34) = (1 : Int32) then (some ((1 : Int32), q)) else (if (q.1 94 34) = (0 : Int32) then (if a < 0 ∨ 201 ≤ a.toNatClampNeg then none else (F_X10_fails (4 : Int32) (q.1 106 a.toNatClampNeg) q).bind fun q161 => if q161.1 = (0 : Int32) then (some ((0 : Int32), q161.2)) else (some ((1 : Int32), q161.2))) else (if a < 0 ∨ 201 ≤ a.toNatClampNeg then none else (F_X10_fails (5 : Int32) (q.1 106 a.toNatClampNeg) q).bind fun q164 => if q164.1 = (0 : Int32) then (some ((0 : Int32), q164.2)) else (some ((1 : Int32), q164.2))))
theorem eq195 (l5 l6 : Int32) (s : St) : J_X10_item_195 l5 l6 s = if (s.1 94 16) < 0 ∨ 201 ≤ ((s.1 94 16)).toNatClampNeg then none else (F_X10_isSort (s.1 105 ((s.1 94 16)).toNatClampNeg) (0 : Int32) s).bind fun q41 => if q41.1 = (0 : Int32) then ((F_X10_wrong q41.2).bind fun q43 => if q43.1 = 0 ∨ q43.1 = 1 then some (q43.1, q43.2) else none) else ((L_X10_item_210  300 l5 l6 (q41.2.1 94 16) q41.2).bind fun q48 => (L_X10_item_230  300 l5 l6 (q41.2.1 94 16) (0 : Int32) (0 : Int32) q48).bind fun q62 => if l6 = (0 : Int32) then ((L_X10_item_260  300 l5 (q41.2.1 94 16) q62.1 (0 : Int32) (xup q62.2.1 94 34 (0 : Int32), q62.2.2)).bind (tlN (q41.2.1 94 16))) else ((L_X10_item_260  300 l5 (q41.2.1 94 16) (1 : Int32) (0 : Int32) (xup q62.2.1 94 34 (0 : Int32), q62.2.2)).bind (tlN (q41.2.1 94 16)))) := rfl
def pick (a b : Nat) : List Nat → Except (Nat × Nat) (List Nat × Nat)
  | [] => .error (4, a)
  | [x] => .ok ([x], b)
  | _ :: _ :: _ => .error (5, a)
theorem sNames_eq (E : LEnv) (ow : Nat → Bool) (a : Nat) : sNames E ow a = if ek E a = 23 then pick a (nend E 201 a) (cands E ow a (nend E 201 a)) else .error (mis E a) := by
  unfold sNames
  by_cases e : ek E a = 23
  · rw [if_pos e, if_pos e]
    match cands E ow a (nend E 201 a) with
    | [] => rfl
    | [x] => rfl
    | _ :: _ :: _ => rfl
  · rw [if_neg e, if_neg e]
theorem tl_k {s' : St} {l : List Nat} (hE : EOK E) (hl : a ≤ em E) (hln : l.length ≤ 24) (h : MI s s' l) (hb : s.1 94 16 = nI b) : FolM s (tlN (nI a) s') (pick a b l) := by
  have h200 := hE.2.2.2.2.2.1
  obtain ⟨h1, h2, h3, h4⟩ := h
  unfold tlN
  rw [h4.1, if_neg (c := nI a < 0 ∨ 201 ≤ (nI a).toNatClampNeg) (grd (n := 201) (by omega) (by omega)), if_neg (c := nI a < 0 ∨ 201 ≤ (nI a).toNatClampNeg) (grd (n := 201) (by omega) (by omega)), nI_clamp (by omega)]
  have fl : ∀ f, ∃ s'', (F_X10_fails (nI f) (s'.1 106 a) s').bind (fun q161 => if q161.1 = (0 : Int32) then some ((0 : Int32), q161.2) else some ((1 : Int32), q161.2)) = some (0, s'') ∧ MEr s s'' (f, a) := by
    intro f
    obtain ⟨s'', w1, w2, w3, w4⟩ := fails_m (s := s') f (i := a) rfl
    exact ⟨s'', by rw [w1, Option.bind_some, if_pos rfl], MF_trans h1 w2, w3, by rw [w4, h1.2.1 106 (by omega) (by omega)]⟩
  match l, hln, h4 with
  | [], _, _ =>
    rw [if_neg (by decide), if_pos (by rfl)]
    obtain ⟨s'', w1, w2⟩ := fl 4
    exact ⟨fun e he => by cases he; exact ⟨s'', w1, w2⟩, fun l b he => by cases he⟩
  | [x], _, h4 =>
    rw [if_pos (by rfl)]
    exact ⟨fun e he => (by cases he), fun l b' he => by cases he; exact ⟨s', rfl, ⟨h1, h2, by rw [h3]; exact hb⟩, h4⟩⟩
  | x :: y :: r, hln, _ =>
    have hn : (x :: y :: r).length ≥ 2 := by simp
    rw [if_neg (show ¬ nI (x :: y :: r).length = 1 from nI_ne (b := 1) (by omega) (by omega) (by omega)), if_neg (nI_ne0 (by omega) (by omega))]
    obtain ⟨s'', w1, w2⟩ := fl 5
    exact ⟨fun e he => by cases he; exact ⟨s'', w1, w2⟩, fun l b he => by cases he⟩
theorem cands_len (hE : EOK E) (ow : Nat → Bool) (a b : Nat) : (cands E ow a b).length ≤ 24 := by
  have := filt_len (fun t => eS E t && (ow t && fits E b t 201 a)) (eT E)
  have := hE.2.1
  unfold cands
  omega
/-- the names, when whose it may be is known -/
theorem names_m {ow : Nat → Bool} {l5 l6 : Int32} (hE : EOK E) (hs : ME s E) (ha : s.1 94 16 = nI a) (hl : a ≤ em E)
    (hX : ∀ s', MF s s' → s'.1 116 = s.1 116 → s'.1 94 34 = s.1 94 34 → ∃ X, L_X10_item_230 300 l5 l6 (nI a) 0 0 s' = some (X, s') ∧ ∀ t, t < eT E → flg s' l5 (if l6 = 0 then X else 1) t = if (eS E t && ow t) = true then 1 else 0) :
    FolM s (J_X10_item_195 l5 l6 s) (sNames E ow a) := by
  have h200 := hE.2.2.2.2.2.1
  obtain ⟨g1, g2, g3⟩ := tok_g hE hs ha hl
  rw [eq195, if_neg g1, g2, show (0 : Int32) = nI 0 from rfl, isSort_k hE hs (by omega), Option.bind_some]
  dsimp only
  rw [sNames_eq]
  by_cases e : ek E a = 23
  · rw [if_pos e, if_neg (show ¬ (1 : Int32) = nI 0 by decide), if_pos e, ha]
    obtain ⟨s1, q1, q2, q3, q4, q5⟩ := it210 (l5 := l5) (l6 := l6) (l7 := nI a) hE 300 201 a s hl (by omega) (by omega) hs ha
    rw [q1, Option.bind_some]
    obtain ⟨X, x1, x2⟩ := hX s1 q2 q5 (q4 34 (by omega))
    rw [show nI 0 = (0 : Int32) from rfl, x1, Option.bind_some]
    dsimp only
    obtain ⟨n1, n2, n3, n4⟩ := nend_spec hE 201 a (by omega)
    have n2 := n2 hl
    have hs1 := ME_MF hs q2
    have h0 : MI s1 (xup s1.1 94 34 0, s1.2) ((List.range 0).filter (fun t => eS E t && (ow t && fits E (nend E 201 a) t 201 a))) := MI_0 s1
    obtain ⟨s2, w1, w2⟩ := it260 (l5 := l5) (l8 := if l6 = 0 then X else 1) hE hs1 q3 n2 n1 n4 x2 300 0 _ (by omega) (by have := hE.2.1; omega) h0
    have hfin : FolM s ((L_X10_item_260 300 l5 (nI a) (if l6 = 0 then X else 1) 0 (xup s1.1 94 34 0, s1.2)).bind (tlN (nI a))) (pick a (nend E 201 a) (cands E ow a (nend E 201 a))) := by
      rw [nI_0] at w1
      rw [w1, Option.bind_some]
      exact FolM_of q2 (q4 17 (by omega)) (tl_k hE hl (cands_len hE ow a _) w2 q3)
    by_cases c : l6 = 0
    · rw [if_pos c]; rw [if_pos c] at hfin; exact hfin
    · rw [if_neg c]; rw [if_neg c] at hfin; exact hfin
  · rw [if_neg e, if_pos (by rfl), if_neg e]
    obtain ⟨s', q1, q2⟩ := wrong_m hE hs ha hl
    exact ⟨fun e he => by cases he; exact ⟨s', if01 (P := True) q1 (Or.inl rfl), q2⟩, fun l b he => by cases he⟩
theorem flg_0 (hs : ME s E) {t : Nat} {X : Int32} (ht : t < eT E) : flg s 0 X t = if (eS E t && true) = true then 1 else 0 := by
  unfold flg
  rw [hs.2.2.1 t ht]
  cases eS E t <;> rfl
theorem flg_1 (hE : EOK E) (hs : ME s E) {t : Nat} {X : Int32} {M : List Nat} (ht : t < eT E) (hM : ∀ x ∈ M, x < eT E) (hX : ∀ i, i < 32 → bt X i = decide (i ∈ M)) : flg s 1 X t = if (eS E t && decide (eO E t ∈ M)) = true then 1 else 0 := by
  unfold flg
  have h24 := hE.2.1
  rw [hs.2.2.1 t ht, hs.2.2.2.1 t ht, if_neg (show ¬ (1 : Int32) = 0 by decide)]
  cases hS : eS E t with
  | false => simp
  | true =>
    rw [if_pos rfl, if_neg (show ¬ (1 : Int32) = 0 by decide)]
    rcases hE.2.2.2.2.1 t ht with h | h
    · rw [if_neg (show ¬ eO E t = 99 by omega), if_neg (nI_m4 (by omega))]
      have := b_test1 (x := X) (n := eO E t) (by omega)
      rw [hX _ (by omega)] at this
      by_cases c : eO E t ∈ M
      · rw [if_pos (this.mpr (by simp [c]))]; simp [c]
      · rw [if_neg (fun q => by have := this.mp q; simp [c] at this)]; simp [c]
    · rw [if_pos h, if_pos rfl]
      have : ¬ eO E t ∈ M := fun q => by have := hM _ q; omega
      simp [this]
end
