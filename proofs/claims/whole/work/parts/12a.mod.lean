/-! the model's side of the line -/
def encN (E : LEnv) (i : Nat) : Nat := if ek E i < 21 then ek E i else if ek E i = 21 then 30 else if ek E i = 22 then 31 else if ek E i = 26 then 32 else if ek E i = 28 then 33 else 100 + ew E i
/-- the model's cells hold the environment -/
def ME (s : St) (E : LEnv) : Prop := s.1 94 1 = nI (eT E) ∧ (∀ t, t < eT E → s.1 96 t = nI (eK E t)) ∧ (∀ t, t < eT E → s.1 97 t = if eS E t = true then 1 else 0) ∧ (∀ t, t < eT E → s.1 98 t = if eO E t = 99 then -4 else nI (eO E t)) ∧
  (∀ w, w < eW E → s.1 101 w = nI (eF E w)) ∧ (∀ w t, w < eW E → t < 24 → s.1 103 (24 * w + t) = nI ((if eN E w t = true then 1 else 0) + (if eA E w t = true then 2 else 0))) ∧
  (∀ i, i ≤ em E → s.1 105 i = nI (encN E i)) ∧ (∀ i, 23 ≤ ek E i → ek E i ≤ 25 → s.1 100 (ew E i) = nI (ek E i - 23))
theorem ME_congr {s s' : St} {E : LEnv} (h : ME s E) (e : ∀ c, 96 ≤ c → c ≤ 106 → s'.1 c = s.1 c) (e1 : s'.1 94 1 = s.1 94 1) : ME s' E := by
  unfold ME at h ⊢
  rw [e 96 (by omega) (by omega), e 97 (by omega) (by omega), e 98 (by omega) (by omega), e 100 (by omega) (by omega), e 101 (by omega) (by omega), e 103 (by omega) (by omega), e 105 (by omega) (by omega), e1]
  exact h
/-- a list of the model -/
def ML (f : Nat → Int32) (z : Int32) (l : List Nat) : Prop := z = nI l.length ∧ ∀ k x, l[k]? = some x → f k = nI x
def MT (s : St) (T : Nat → List Nat) : Prop := ∀ p, p < 4 → ML (fun k => s.1 114 (24 * p + k)) (s.1 115 p) (T p)
/-- what an item leaves as it was -/
def MF (s s' : St) : Prop := s'.2 = s.2 ∧ (∀ c, c ≠ 94 → c ≠ 116 → s'.1 c = s.1 c) ∧ (∀ j, j ≠ 16 → j ≠ 17 → j ≠ 18 → j ≠ 34 → s'.1 94 j = s.1 94 j)
def MEr (s s' : St) (e : Nat × Nat) : Prop := MF s s' ∧ s'.1 94 17 = nI e.1 ∧ s'.1 94 18 = s.1 106 e.2
def MOk (s s' : St) (b : Nat) : Prop := MF s s' ∧ s'.1 94 17 = s.1 94 17 ∧ s'.1 94 16 = nI b
def FolM (s : St) (F : Option (Int32 × St)) (R : Except (Nat × Nat) (List Nat × Nat)) : Prop :=
  (∀ e, R = .error e → ∃ s', F = some (0, s') ∧ MEr s s' e) ∧ (∀ l b, R = .ok (l, b) → ∃ s', F = some (1, s') ∧ MOk s s' b ∧ ML (s'.1 116) (s'.1 94 34) l)
theorem MF_refl (s : St) : MF s s := ⟨rfl, fun _ _ _ => rfl, fun _ _ _ _ _ => rfl⟩
theorem MF_trans {s s1 s2 : St} (h : MF s s1) (h' : MF s1 s2) : MF s s2 :=
  ⟨h'.1.trans h.1, fun c a b => (h'.2.1 c a b).trans (h.2.1 c a b), fun j a b c d => (h'.2.2 j a b c d).trans (h.2.2 j a b c d)⟩
theorem ME_MF {s s' : St} {E : LEnv} (h : ME s E) (m : MF s s') : ME s' E := ME_congr h (fun c a b => m.2.1 c (by omega) (by omega)) (m.2.2 1 (by omega) (by omega) (by omega) (by omega))
theorem MT_MF {s s' : St} {T : Nat → List Nat} (h : MT s T) (m : MF s s') : MT s' T := by
  unfold MT at h ⊢; rw [m.2.1 114 (by omega) (by omega), m.2.1 115 (by omega) (by omega)]; exact h
theorem FolM_of {s s1 : St} {F : Option (Int32 × St)} {R : Except (Nat × Nat) (List Nat × Nat)} (m : MF s s1) (h17 : s1.1 94 17 = s.1 94 17) (h : FolM s1 F R) : FolM s F R := by
  refine ⟨fun e he => ?_, fun l b he => ?_⟩
  · obtain ⟨s', q1, q2, q3, q4⟩ := h.1 e he
    exact ⟨s', q1, MF_trans m q2, q3, by rw [q4, m.2.1 106 (by omega) (by omega)]⟩
  · obtain ⟨s', q1, ⟨q2, q3, q4⟩, q5⟩ := h.2 l b he
    exact ⟨s', q1, ⟨MF_trans m q2, by rw [q3, h17], q4⟩, q5⟩
theorem MF_94 (s : St) {j : Nat} {x : Int32} (h : j = 16 ∨ j = 17 ∨ j = 18 ∨ j = 34) : MF s (xup s.1 94 j x, s.2) :=
  ⟨rfl, fun c a b => by dsimp only; rw [xup_ne a], fun i a b c d => by dsimp only; rw [xup_j (by omega)]⟩
section
variable {s : St} {E : LEnv} {T : Nat → List Nat} {a b p actor : Nat}
theorem enc_cases (hE : EOK E) (a : Nat) : (ek E a < 21 ∧ encN E a = ek E a) ∨ (ek E a = 21 ∧ encN E a = 30) ∨ (ek E a = 22 ∧ encN E a = 31) ∨ (ek E a = 26 ∧ encN E a = 32) ∨ (ek E a = 28 ∧ encN E a = 33) ∨ (23 ≤ ek E a ∧ ek E a ≤ 25 ∧ encN E a = 100 + ew E a ∧ ew E a < 60 ∧ ew E a < eW E) := by
  have h1 := ek_lt hE a
  have h27 : ek E a ≠ 27 := by
    rcases Nat.lt_or_ge a (em E) with q | q
    · have := hE.2.2.2.2.2.2.2.1 a q; omega
    · rw [hE.2.2.2.2.2.2.1 a q]; omega
  have hw := hE.2.2.2.2.2.2.2.2.1 a
  have h60 := hE.2.2.2.2.2.2.2.2.2.1
  unfold encN
  by_cases c1 : ek E a < 21
  · rw [if_pos c1]; omega
  rw [if_neg c1]
  by_cases c2 : ek E a = 21
  · rw [if_pos c2]; omega
  rw [if_neg c2]
  by_cases c3 : ek E a = 22
  · rw [if_pos c3]; omega
  rw [if_neg c3]
  by_cases c4 : ek E a = 26
  · rw [if_pos c4]; omega
  rw [if_neg c4]
  by_cases c5 : ek E a = 28
  · rw [if_pos c5]; omega
  rw [if_neg c5]
  have := hw (by omega) (by omega)
  omega
theorem enc_lt (hE : EOK E) (a : Nat) : encN E a < 160 := by have := enc_cases hE a; omega
/-- a token is this one -/
theorem tok_iff (hE : EOK E) (a c : Nat) (hc : c < 200) : nI (encN E a) = nI c ↔ encN E a = c := nI_eq (by have := enc_lt hE a; omega) (by omega)
theorem tok_y (hE : EOK E) {a c : Nat} (h : encN E a = c) : nI (encN E a) = nI c := by rw [h]
theorem tok_n (hE : EOK E) {a c : Nat} (hc : c < 200) (h : encN E a ≠ c) : ¬ nI (encN E a) = nI c := fun q => h ((tok_iff hE a c hc).mp q)
theorem isSort_k (hE : EOK E) (hs : ME s E) {k : Nat} (hk : k < 3) : F_X10_isSort (nI (encN E a)) (nI k) s = some (if ek E a = 23 + k then 1 else 0, s) := by
  unfold F_X10_isSort
  have hl := enc_lt hE a
  rcases Nat.lt_or_ge (encN E a) 100 with q | q
  · rw [if_pos (show nI (encN E a) < 100 from nI_lt (b := 100) q (by omega)), if_neg (by have := enc_cases hE a; omega)]
  · obtain ⟨c1, c2, c3, c4, c5⟩ : 23 ≤ ek E a ∧ ek E a ≤ 25 ∧ encN E a = 100 + ew E a ∧ ew E a < 60 ∧ ew E a < eW E := by have := enc_cases hE a; omega
    rw [if_neg (show ¬ nI (encN E a) < 100 from nI_nlt (b := 100) q (by omega)), c3, show (100 : Int32) = nI 100 from rfl, pk_sub (by omega), show 100 + ew E a - 100 = ew E a by omega, if_neg (grd c4 (by omega)), nI_clamp (by omega), hs.2.2.2.2.2.2.2 a c1 c2]
    by_cases e : ek E a = 23 + k
    · rw [if_pos e, if_pos (by rw [e]; congr 1; omega)]
    · rw [if_neg e, if_neg (nI_ne (by omega) (by omega) (by omega))]
theorem isInN {x lo hi : Nat} (hx : x < 1000) (h1 : lo < 1000) (h2 : hi < 1000) : F_X10_isIn (nI x) (nI lo) (nI hi) s = some (if lo ≤ x ∧ x ≤ hi then 1 else 0, s) := by
  unfold F_X10_isIn
  by_cases c1 : lo ≤ x
  · rw [if_neg (nI_nlt c1 (by omega))]
    by_cases c2 : x ≤ hi
    · rw [if_neg (nI_nlt c2 (by omega)), if_pos ⟨c1, c2⟩]
    · rw [if_pos (nI_lt (by omega) (by omega)), if_neg (fun q => c2 q.2)]
  · rw [if_pos (nI_lt (by omega) (by omega)), if_neg (fun q => c1 q.1)]
theorem fails_m (f : Nat) {x : Int32} {i : Nat} (hx : x = s.1 106 i) : ∃ s', F_X10_fails (nI f) x s = some (0, s') ∧ MEr s s' (f, i) := by
  refine ⟨_, rfl, MF_trans (MF_94 s (j := 17) (by omega)) (MF_94 _ (j := 18) (by omega)), ?_, ?_⟩
  · dsimp only; rw [xup_j (by omega), xup_eq, if_pos rfl]
  · dsimp only; rw [xup_eq, if_pos rfl, hx]
theorem tok_g (hE : EOK E) (hs : ME s E) (ha : s.1 94 16 = nI a) (hl : a ≤ em E) : ¬ (s.1 94 16 < 0 ∨ 201 ≤ (s.1 94 16).toNatClampNeg) ∧ s.1 105 (s.1 94 16).toNatClampNeg = nI (encN E a) ∧ (s.1 94 16).toNatClampNeg = a := by
  have h200 := hE.2.2.2.2.2.1
  rw [ha]
  refine ⟨grd (n := 201) (by omega) (by omega), ?_, nI_clamp (by omega)⟩
  rw [nI_clamp (by omega), hs.2.2.2.2.2.2.1 a hl]
theorem wrong_m (hE : EOK E) (hs : ME s E) (ha : s.1 94 16 = nI a) (hl : a ≤ em E) : ∃ s', F_X10_wrong s = some (0, s') ∧ MEr s s' (mis E a) := by
  obtain ⟨g1, g2, g3⟩ := tok_g hE hs ha hl
  unfold F_X10_wrong mis
  rw [if_neg g1, g2, g3]
  by_cases e : ek E a = 26
  · rw [if_pos (show nI (encN E a) = 32 from tok_y hE (c := 32) (by have := enc_cases hE a; omega)), if_pos e]
    obtain ⟨s', q1, q2⟩ := fails_m (s := s) 2 (i := a) rfl
    exact ⟨s', if01 (P := True) q1 (Or.inl rfl), q2⟩
  · rw [if_neg (show ¬ nI (encN E a) = 32 from tok_n hE (c := 32) (by omega) (by have := enc_cases hE a; omega)), if_neg e]
    obtain ⟨s', q1, q2⟩ := fails_m (s := s) 3 (i := a) rfl
    exact ⟨s', if01 (P := True) q1 (Or.inl rfl), q2⟩
/-- a list under way -/
def MI (s s' : St) (l : List Nat) : Prop := MF s s' ∧ s'.1 94 17 = s.1 94 17 ∧ s'.1 94 16 = s.1 94 16 ∧ ML (s'.1 116) (s'.1 94 34) l
def psh (I : Nat → Nat → Int32) (n : Nat) (x : Nat) : Nat → Nat → Int32 := xup (xup I 116 n (nI x)) 94 34 (nI (n + 1))
theorem ML_push {f f' : Nat → Int32} {z : Int32} {l : List Nat} {x : Nat} (h : ML f z l) (h1 : f' l.length = nI x) (h2 : ∀ k, k ≠ l.length → f' k = f k) : ML f' (nI (l.length + 1)) (l ++ [x]) := by
  refine ⟨by simp, fun k y hy => ?_⟩
  by_cases ek : k = l.length
  · rw [ek, h1]; rw [ek] at hy; simp at hy; rw [hy]
  · rw [h2 k ek]
    apply h.2
    rw [List.getElem?_append] at hy
    by_cases hk : k < l.length
    · rwa [if_pos hk] at hy
    · rw [if_neg hk] at hy
      have : ([x] : List Nat)[k - l.length]? = none := by apply List.getElem?_eq_none; simp; omega
      rw [this] at hy; cases hy
theorem MI_push {s s' : St} {l : List Nat} {x : Nat} (h : MI s s' l) : MI s (psh s'.1 l.length x, s'.2) (l ++ [x]) := by
  obtain ⟨h1, h2, h3, h4⟩ := h
  unfold psh
  refine ⟨MF_trans h1 ⟨rfl, fun c a b => ?_, fun j a b c d => ?_⟩, ?_, ?_, ?_⟩
  · dsimp only; rw [xup_ne a, xup_ne b]
  · dsimp only; rw [xup_j d, xup_ne (by omega)]
  · dsimp only; rw [xup_j (by omega), xup_ne (by omega)]; exact h2
  · dsimp only; rw [xup_j (by omega), xup_ne (by omega)]; exact h3
  · dsimp only; rw [xup_eq, if_pos rfl]
    exact ML_push h4 (by rw [xup_ne (by omega), xup_eq, if_pos rfl]) (fun k q => by rw [xup_ne (by omega), xup_j q])
theorem MI_0 (s : St) : MI s (xup s.1 94 34 0, s.2) [] := ⟨MF_94 s (by omega), by dsimp only; rw [xup_j (by omega)], by dsimp only; rw [xup_j (by omega)], by dsimp only; rw [xup_eq, if_pos rfl]; rfl, fun k x h => by simp at h⟩
theorem TOK_len (hE : EOK E) (hTo : TOK E T) (hp : p < 4) : (T p).length ≤ 24 := by
  have := pig (eT E) (T p) (hTo p hp).1 (hTo p hp).2
  have := hE.2.1
  omega
theorem and01 (x y : Bool) : ((if x = true then (1 : Int32) else 0) &&& (if y = true then 1 else 0)) = if (x && y) = true then 1 else 0 := by cases x <;> cases y <;> rfl
theorem take_s {l : List Nat} {k : Nat} (h : k < l.length) : l.take (k + 1) = l.take k ++ [l[k]] := by rw [List.take_succ, List.getElem?_eq_getElem h]; rfl
theorem tm_loop (hE : EOK E) (hs : ME s E) (hT : MT s T) (hTo : TOK E T) (hp : p < 4) {l2 : Int32} : ∀ f k (s' : St), k ≤ (T p).length → (T p).length < f + k → MI s s' ((T p).take k) →
    ∃ s'', L_X10_tableMeans_20 f (nI p) l2 (if ((T p).take k).all (eS E) = true then 1 else 0) (nI k) s' = some (if (T p).all (eS E) = true then 1 else 0, s'') ∧ MI s s'' (T p) := by
  have hlen := TOK_len hE hTo hp
  intro f
  induction f with
  | zero => intro k s' a b; omega
  | succ f ih =>
    intro k s' h1 h2 hm
    have h115 : s'.1 115 p = nI (T p).length := by rw [hm.1.2.1 115 (by omega) (by omega)]; exact (hT p hp).1
    unfold L_X10_tableMeans_20
    rw [if_neg (grd hp (by omega)), nI_clamp (by omega), h115]
    by_cases e : k = (T p).length
    · rw [if_pos (nI_le (by omega) (by omega))]
      rw [e, List.take_length] at hm ⊢
      exact ⟨s', rfl, hm⟩
    · have hk : k < (T p).length := by omega
      have hx : (T p)[k]? = some (T p)[k] := List.getElem?_eq_getElem hk
      have hx24 := (hTo p hp).2 _ (List.getElem_mem hk)
      have h24 := hE.2.1
      have hv : s'.1 114 (24 * p + k) = nI (T p)[k] := by rw [hm.1.2.1 114 (by omega) (by omega)]; exact (hT p hp).2 k _ hx
      have h34 : s'.1 94 34 = nI k := by rw [hm.2.2.2.1]; congr 1; simp; omega
      have hlk : ((T p).take k).length = k := by simp; omega
      have hsn : s'.1 97 (T p)[k] = if eS E (T p)[k] = true then 1 else 0 := by rw [hm.1.2.1 97 (by omega) (by omega)]; exact hs.2.2.1 _ hx24
      rw [if_neg (nI_ge hk (by omega)), nI24, nI_add, if_neg (grd (n := 96) (by omega) (by omega)), nI_clamp (by omega), hv, if_neg (grd (n := 24) (by omega) (by omega)), nI_clamp (by omega), h34, if_neg (grd (n := 24) (by omega) (by omega)), nI_clamp (by omega)]
      dsimp only
      rw [xup_ne (by omega), h34, hsn, and01, nI_s]
      have := MI_push (x := (T p)[k]) hm
      rw [hlk, ← take_s hk] at this
      have hall : (((T p).take k).all (eS E) && eS E (T p)[k]) = ((T p).take (k + 1)).all (eS E) := by rw [take_s hk, List.all_append]; simp
      rw [hall]
      exact ih (k + 1) _ (by omega) (by omega) this
theorem tm_k (hE : EOK E) (hs : ME s E) (hT : MT s T) (hTo : TOK E T) (hp : p < 4) (hl : a ≤ em E) : (T p = [] → ∃ s', F_X10_tableMeans (nI p) (nI a) s = some (0, s') ∧ MEr s s' (6, a)) ∧ (T p ≠ [] → (T p).all (eS E) = false → ∃ s', F_X10_tableMeans (nI p) (nI a) s = some (0, s') ∧ MEr s s' (7, a)) ∧
    (T p ≠ [] → (T p).all (eS E) = true → ∃ s', F_X10_tableMeans (nI p) (nI a) s = some (1, s') ∧ MI s s' (T p)) := by
  have h200 := hE.2.2.2.2.2.1
  have hlen := TOK_len hE hTo hp
  have h115 := (hT p hp).1
  have hloop : T p ≠ [] → ∃ s'', L_X10_tableMeans_20 300 (nI p) (nI a) 1 0 (xup s.1 94 34 0, s.2) = some (if (T p).all (eS E) = true then 1 else 0, s'') ∧ MI s s'' (T p) := by
    intro hne
    exact tm_loop hE hs hT hTo hp (l2 := nI a) 300 0 (xup s.1 94 34 0, s.2) (by omega) (by omega) (MI_0 s)
  refine ⟨fun h => ?_, fun h h' => ?_, fun h h' => ?_⟩
  · unfold F_X10_tableMeans
    rw [if_neg (grd hp (by omega)), nI_clamp (by omega), h115, h, if_pos (by rfl), if_neg (grd (n := 201) (by omega) (by omega)), nI_clamp (by omega)]
    obtain ⟨s', q1, q2⟩ := fails_m (s := s) 6 (i := a) rfl
    exact ⟨s', if01 (P := True) q1 (Or.inl rfl), q2⟩
  · obtain ⟨s'', q1, q2⟩ := hloop h
    have hl0 : 0 < (T p).length := List.length_pos_iff.mpr h
    unfold F_X10_tableMeans
    rw [if_neg (grd hp (by omega)), nI_clamp (by omega), h115, if_neg (nI_ne0 hl0 (by omega))]
    dsimp only
    rw [if_neg (show ¬ (T p).all (eS E) = true by simp [h'])] at q1
    rw [q1, Option.bind_some]
    dsimp only
    rw [if_pos rfl, if_neg (grd (n := 201) (by omega) (by omega)), nI_clamp (by omega)]
    obtain ⟨s', w1, w2, w3, w4⟩ := fails_m (s := s'') 7 (i := a) rfl
    refine ⟨s', ?_, MF_trans q2.1 w2, w3, by rw [w4, q2.1.2.1 106 (by omega) (by omega)]⟩
    rw [show (7 : Int32) = nI 7 from rfl, w1, Option.bind_some, if_pos rfl]
  · obtain ⟨s'', q1, q2⟩ := hloop h
    have hl0 : 0 < (T p).length := List.length_pos_iff.mpr h
    unfold F_X10_tableMeans
    rw [if_neg (grd hp (by omega)), nI_clamp (by omega), h115, if_neg (nI_ne0 hl0 (by omega))]
    dsimp only
    rw [if_pos h'] at q1
    rw [q1, Option.bind_some]
    dsimp only
    rw [if_neg (by decide)]
    exact ⟨s'', rfl, q2⟩
end
