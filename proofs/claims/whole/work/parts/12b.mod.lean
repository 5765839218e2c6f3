section
variable {s : St} {E : LEnv} {T : Nat → List Nat} {a b p actor : Nat}
def allP (E : LEnv) (t : Nat) : Bool := eS E t && !(eK E t == 1 || eK E t == 2)
theorem filt_s (P : Nat → Bool) (x : Nat) : (List.range (x + 1)).filter P = (List.range x).filter P ++ (if P x = true then [x] else []) := by
  rw [List.range_succ, List.filter_append]
  congr 1
  by_cases h : P x = true
  · rw [if_pos h, List.filter_cons_of_pos h]; rfl
  · rw [if_neg h, List.filter_cons_of_neg h]; rfl
theorem filt_len (P : Nat → Bool) (x : Nat) : ((List.range x).filter P).length ≤ x := Nat.le_trans (List.length_filter_le _ _) (by simp)
theorem it23 (hE : EOK E) (hs : ME s E) (hac : eK E actor = 1 ∨ eK E actor = 2) (hal : actor < eT E) {l2 : Int32} : ∀ f x (s' : St), x ≤ eT E → eT E < f + x → MI s s' ((List.range x).filter (allP E)) →
    ∃ s'', L_X10_item_23 f (nI actor) l2 (nI x) s' = some s'' ∧ MI s s'' (allL E) := by
  have h24 := hE.2.1
  intro f
  induction f with
  | zero => intro x s' h1 h2; omega
  | succ f ih =>
    intro x s' h1 h2 hm
    have h941 : s'.1 94 1 = nI (eT E) := by rw [hm.1.2.2 1 (by omega) (by omega) (by omega) (by omega)]; exact hs.1
    unfold L_X10_item_23
    rw [h941]
    by_cases e : x = eT E
    · rw [if_pos (nI_le (by omega) (by omega))]
      subst e
      exact ⟨s', rfl, hm⟩
    · have hx : x < eT E := by omega
      have hK : s'.1 96 x = nI (eK E x) := by rw [hm.1.2.1 96 (by omega) (by omega)]; exact hs.2.1 x hx
      have hS : s'.1 97 x = if eS E x = true then 1 else 0 := by rw [hm.1.2.1 97 (by omega) (by omega)]; exact hs.2.2.1 x hx
      have hk4 := hE.2.2.2.1 x hx
      rw [if_neg (nI_ge hx (by omega)), if_neg (grd (n := 24) (by omega) (by omega)), nI_clamp (by omega), hS, hK, nI_s]
      have hno : allP E x = false → MI s s' ((List.range (x + 1)).filter (allP E)) := by
        intro h; rw [filt_s, if_neg (by simp [h]), List.append_nil]; exact hm
      by_cases c1 : eS E x = true
      · rw [if_pos c1, if_neg (by decide)]
        by_cases c2 : x = actor
        · rw [if_pos (by rw [c2])]
          exact ih (x + 1) s' (by omega) (by omega) (hno (by unfold allP; rw [c2]; rcases hac with h | h <;> simp [h]))
        · rw [if_neg (nI_ne c2 (by omega) (by omega))]
          by_cases c3 : eK E x = 1
          · rw [if_pos (by rw [c3]; rfl)]
            exact ih (x + 1) s' (by omega) (by omega) (hno (by unfold allP; simp [c3]))
          · rw [if_neg (show ¬ nI (eK E x) = 1 from nI_ne (b := 1) c3 (by omega) (by omega))]
            by_cases c4 : eK E x = 2
            · rw [if_pos (by rw [c4]; rfl)]
              exact ih (x + 1) s' (by omega) (by omega) (hno (by unfold allP; simp [c4]))
            · rw [if_neg (show ¬ nI (eK E x) = 2 from nI_ne (b := 2) c4 (by omega) (by omega))]
              have hfl := filt_len (allP E) x
              have h34 := hm.2.2.2.1
              rw [h34, if_neg (grd (n := 24) (by omega) (by omega)), nI_clamp (by omega)]
              dsimp only
              rw [xup_ne (by omega), h34, nI_s]
              have hp := MI_push (x := x) hm
              apply ih (x + 1) _ (by omega) (by omega)
              rw [filt_s, if_pos (by unfold allP; simp [c1, c3, c4])]
              exact hp
      · rw [if_neg c1, if_pos rfl]
        exact ih (x + 1) s' (by omega) (by omega) (hno (by unfold allP; simp [c1]))
/-- the name words, to their end -/
theorem it210 (hE : EOK E) {l5 l6 l7 : Int32} : ∀ f g a (s' : St), a ≤ em E → em E < f + a → em E < g + a → ME s' E → s'.1 94 16 = nI a →
    ∃ s'', L_X10_item_210 f l5 l6 l7 s' = some s'' ∧ MF s' s'' ∧ s''.1 94 16 = nI (nend E g a) ∧ (∀ j, j ≠ 16 → s''.1 94 j = s'.1 94 j) ∧ s''.1 116 = s'.1 116 := by
  intro f
  induction f with
  | zero => intro g a s' h1 h2; omega
  | succ f ih =>
    intro g a s' h1 h2 h3 hs ha
    obtain ⟨g', rfl⟩ : ∃ g', g = g' + 1 := ⟨g - 1, by omega⟩
    obtain ⟨g1, g2, g3⟩ := tok_g hE hs ha h1
    unfold L_X10_item_210 nend
    rw [if_neg g1, g2, show (0 : Int32) = nI 0 from rfl, isSort_k hE hs (by omega), Option.bind_some]
    dsimp only
    by_cases e : ek E a = 23
    · rw [if_pos e, if_neg (show ¬ (1 : Int32) = nI 0 by decide), if_pos e, ha, nI_s]
      have hm := em_lt hE (a := a) (by omega)
      have hmf : MF s' (xup s'.1 94 16 (nI (a + 1)), s'.2) := MF_94 s' (by omega)
      obtain ⟨s'', q1, q2, q3, q4, q5⟩ := ih g' (a + 1) (xup s'.1 94 16 (nI (a + 1)), s'.2) (by omega) (by omega) (by omega) (ME_MF hs hmf) (by dsimp only; rw [xup_eq, if_pos rfl])
      refine ⟨s'', q1, MF_trans hmf q2, q3, fun j hj => by rw [q4 j hj]; dsimp only; rw [xup_j hj], by rw [q5]; dsimp only; rw [xup_ne (by omega)]⟩
    · rw [if_neg e, if_pos (by rfl), if_neg e]
      exact ⟨s', rfl, MF_refl s', ha, fun _ _ => rfl, rfl⟩
theorem it230 {M : List Nat} (hM : ML (s.1 116) (s.1 94 34) M) (hl : M.length ≤ 24) (hx : ∀ x ∈ M, x < 24) {l7 : Int32} : ∀ f k X, k ≤ M.length → M.length < f + k →
    ∃ X', L_X10_item_230 f 1 0 l7 X (nI k) s = some (X', s) ∧ ∀ t, t < 32 → bt X' t = (bt X t || decide (t ∈ M.drop k)) := by
  intro f
  induction f with
  | zero => intro k X h1 h2; omega
  | succ f ih =>
    intro k X h1 h2
    unfold L_X10_item_230
    rw [hM.1]
    by_cases e : k = M.length
    · rw [if_pos (nI_le (by omega) (by omega))]
      exact ⟨X, rfl, fun t ht => by rw [e, List.drop_length]; simp⟩
    · have hk : k < M.length := by omega
      rw [if_neg (nI_ge hk (by omega)), if_neg (by decide), if_pos rfl, if_neg (grd (n := 24) (by omega) (by omega)), nI_clamp (by omega), hM.2 k _ (List.getElem?_eq_getElem hk), nI_s]
      obtain ⟨X', q1, q2⟩ := ih (k + 1) (X ||| ((1 : Int32) <<< (nI M[k] &&& 31))) (by omega) (by omega)
      refine ⟨X', q1, fun t ht => ?_⟩
      have := hx _ (List.getElem_mem hk)
      have hd : t ∈ M.drop k ↔ t = M[k] ∨ t ∈ M.drop (k + 1) := by rw [List.drop_eq_getElem_cons hk, List.mem_cons]
      rw [q2 t ht, b_set (by omega) ht, decide_eq_decide.mpr hd, Bool.decide_or, Bool.or_assoc]
theorem it230_0 {l5 l6 l7 X k : Int32} (h : l5 = 0 ∨ ¬ l6 = 0) : L_X10_item_230 300 l5 l6 l7 X k s = some (X, s) := by
  unfold L_X10_item_230
  by_cases c : s.1 94 34 ≤ k
  · rw [if_pos c]
  · rw [if_neg c]
    by_cases c2 : l5 = 0
    · rw [if_pos c2]
    · rw [if_neg c2]
      rcases h with h | h
      · exact absurd h c2
      · rw [if_neg h]
theorem nb1 (x y : Bool) : (nI ((if x = true then 1 else 0) + (if y = true then 2 else 0)) &&& 1) = 1 ↔ x = true := by cases x <;> cases y <;> decide
theorem nb0 (x y : Bool) : nI ((if x = true then 1 else 0) + (if y = true then 2 else 0)) = 0 ↔ (x || y) = false := by cases x <;> cases y <;> decide
theorem if_b (x : Bool) : (if x = true then (1 : Int32) else 0) = 0 ↔ x = false := by cases x <;> decide
theorem it293 (hE : EOK E) (hs : ME s E) (hb : s.1 94 16 = nI b) (hbm : b ≤ em E) {t : Nat} (ht : t < eT E) {l5 l7 l8 : Int32} : ∀ f j g (r : Bool), j ≤ b → b < f + j → b ≤ g + j → (∀ i, j ≤ i → i < b → ek E i = 23) →
    L_X10_item_293 f l5 l7 l8 (nI t) (if r = true then 1 else 0) (nI j) s = some (if (r && fits E b t g j) = true then 1 else 0, s) := by
  have h200 := hE.2.2.2.2.2.1
  have h24 := hE.2.1
  intro f
  induction f with
  | zero => intro j g r h1 h2; omega
  | succ f ih =>
    intro j g r h1 h2 h3 hall
    unfold L_X10_item_293
    rw [hb]
    by_cases e : j = b
    · rw [if_pos (nI_le (by omega) (by omega)), e, fits_end]; simp
    · have hj : j < b := by omega
      rw [if_neg (nI_ge hj (by omega))]
      cases r with
      | false => simp
      | true =>
        obtain ⟨g', rfl⟩ : ∃ g', g = g' + 1 := ⟨g - 1, by omega⟩
        have hk := hall j (by omega) hj
        have hfit : fits E b t (g' + 1) j = ((if j + 1 = b then eN E (ew E j) t else (eN E (ew E j) t || eA E (ew E j) t)) && fits E b t g' (j + 1)) := by
          conv => lhs; unfold fits
          rw [if_pos hj]
        obtain ⟨c1, c2, c3, c4, c5⟩ : 23 ≤ ek E j ∧ ek E j ≤ 25 ∧ encN E j = 100 + ew E j ∧ ew E j < 60 ∧ ew E j < eW E := by have := enc_cases hE j; omega
        rw [if_pos rfl, if_neg (by decide), if_neg (grd (n := 201) (by omega) (by omega)), nI_clamp (by omega), hs.2.2.2.2.2.2.1 j (by omega), c3, show (100 : Int32) = nI 100 from rfl, pk_sub (by omega), show 100 + ew E j - 100 = ew E j by omega, nI24, nI_add, if_neg (grd (n := 1440) (by omega) (by omega)), nI_clamp (by omega), hs.2.2.2.2.2.1 _ t c5 (by omega), nI_s]
        have hb1 : nI b - 1 = nI (b - 1) := by rw [show (1 : Int32) = nI 1 from rfl, pk_sub (by omega)]
        rw [hb1, hfit]
        have i1 := ih (j + 1) g' true (by omega) (by omega) (by omega) (fun i x y => hall i (by omega) y)
        have i0 := ih (j + 1) g' false (by omega) (by omega) (by omega) (fun i x y => hall i (by omega) y)
        rw [if_pos rfl] at i1
        rw [if_neg (by decide)] at i0
        by_cases c : j + 1 = b
        · rw [if_pos (show nI j = nI (b - 1) by congr 1; omega), if_pos c]
          cases hx : eN E (ew E j) t with
          | true => rw [if_pos ((nb1 true _).mpr rfl), i1]; simp
          | false => rw [if_neg (fun q => by have := (nb1 false _).mp q; cases this), i0]; simp
        · rw [if_neg (nI_ne (by omega) (by omega) (by omega)), if_neg c]
          cases hx : (eN E (ew E j) t || eA E (ew E j) t) with
          | true => rw [if_neg (fun q => by rw [(nb0 _ _).mp q] at hx; cases hx), i1]; simp
          | false => rw [if_pos ((nb0 _ _).mpr hx), i0]; simp
/-- may this thing be it, by sight and by whose it is -/
def flg (s : St) (l5 l8 : Int32) (t : Nat) : Int32 := if s.1 97 t = 0 then 0 else if l5 = 0 then 1 else if s.1 98 t = -4 then 0 else if ((l8 >>> ((s.1 98 t) &&& 31)) &&& (1 : Int32)) = 1 then 1 else 0
def st260 (n : Nat) (l5 l7 l8 l9 : Int32) (q : Int32 × St) : Option St := if q.1 = 0 then L_X10_item_260 n l5 l7 l8 (l9 + 1) q.2 else (if (q.2.1 94 34) < 0 ∨ 24 ≤ ((q.2.1 94 34)).toNatClampNeg then none else L_X10_item_260 n l5 l7 l8 (l9 + 1) (xup (xup q.2.1 116 ((q.2.1 94 34)).toNatClampNeg l9) 94 34 ((xup q.2.1 116 ((q.2.1 94 34)).toNatClampNeg l9) 94 34 + 1), q.2.2))
theorem eq260 (n : Nat) (l5 l7 l8 l9 : Int32) (s : St) : L_X10_item_260 (n + 1) l5 l7 l8 l9 s = if s.1 94 1 ≤ l9 then some s else if l9 < 0 ∨ 24 ≤ l9.toNatClampNeg then none else (L_X10_item_293 300 l5 l7 l8 l9 (flg s l5 l8 l9.toNatClampNeg) l7 s).bind (st260 n l5 l7 l8 l9) := by
  unfold flg
  conv => lhs; unfold L_X10_item_260
  by_cases c1 : s.1 94 1 ≤ l9
  · rw [if_pos c1, if_pos c1]
  rw [if_neg c1, if_neg c1]
  by_cases c2 : l9 < 0 ∨ 24 ≤ l9.toNatClampNeg
  · rw [if_pos c2, if_pos c2]
  rw [if_neg c2, if_neg c2]
  by_cases c3 : s.1 97 l9.toNatClampNeg = 0
  · rw [if_pos c3, if_pos c3]; rfl
  rw [if_neg c3, if_neg c3]
  by_cases c4 : l5 = 0
  · rw [if_pos c4, if_pos c4]; rfl
  rw [if_neg c4, if_neg c4]
  by_cases c5 : s.1 98 l9.toNatClampNeg = -4
  · rw [if_pos c5, if_pos c5]; rfl
  rw [if_neg c5, if_neg c5]
  by_cases c6 : ((l8 >>> ((s.1 98 l9.toNatClampNeg) &&& 31)) &&& (1 : Int32)) = 1
  · rw [if_pos c6, if_pos c6]; rfl
  · rw [if_neg c6, if_neg c6]; rfl
theorem it260 {ow : Nat → Bool} (hE : EOK E) (hs : ME s E) (hb : s.1 94 16 = nI b) (hbm : b ≤ em E) (hab : a ≤ b) (hall : ∀ i, a ≤ i → i < b → ek E i = 23) {l5 l8 : Int32} (hf : ∀ t, t < eT E → flg s l5 l8 t = if (eS E t && ow t) = true then 1 else 0) : ∀ f x (s' : St), x ≤ eT E → eT E < f + x → MI s s' ((List.range x).filter (fun t => eS E t && (ow t && fits E b t 201 a))) →
    ∃ s'', L_X10_item_260 f l5 (nI a) l8 (nI x) s' = some s'' ∧ MI s s'' (cands E ow a b) := by
  have h24 := hE.2.1
  have h200 := hE.2.2.2.2.2.1
  intro f
  induction f with
  | zero => intro x s' h1 h2; omega
  | succ f ih =>
    intro x s' h1 h2 hm
    have h941 : s'.1 94 1 = nI (eT E) := by rw [hm.1.2.2 1 (by omega) (by omega) (by omega) (by omega)]; exact hs.1
    rw [eq260, h941]
    by_cases e : x = eT E
    · rw [if_pos (nI_le (by omega) (by omega))]
      subst e
      exact ⟨s', rfl, hm⟩
    · have hx : x < eT E := by omega
      have hfl : flg s' l5 l8 x = if (eS E x && ow x) = true then 1 else 0 := by
        rw [← hf x hx]; unfold flg; rw [hm.1.2.1 97 (by omega) (by omega), hm.1.2.1 98 (by omega) (by omega)]
      rw [if_neg (nI_ge hx (by omega)), if_neg (grd (n := 24) (by omega) (by omega)), nI_clamp (by omega), hfl, it293 hE (ME_MF hs hm.1) (by rw [hm.2.2.1]; exact hb) hbm hx 300 a 201 _ hab (by omega) (by omega) hall, Option.bind_some]
      unfold st260
      dsimp only
      rw [nI_s]
      by_cases c : (eS E x && ow x && fits E b x 201 a) = true
      · have hfl := filt_len (fun t => eS E t && (ow t && fits E b t 201 a)) x
        have h34 := hm.2.2.2.1
        rw [if_pos c, if_neg (by decide), h34, if_neg (grd (n := 24) (by omega) (by omega)), nI_clamp (by omega), xup_ne (show 94 ≠ 116 by omega), h34, nI_s]
        have hp := MI_push (x := x) hm
        apply ih (x + 1) _ (by omega) (by omega)
        rw [filt_s, if_pos (by rw [← Bool.and_assoc]; exact c)]
        exact hp
      · rw [if_neg c, if_pos rfl]
        apply ih (x + 1) s' (by omega) (by omega)
        rw [filt_s, if_neg (by rw [← Bool.and_assoc]; exact c), List.append_nil]
        exact hm
end
