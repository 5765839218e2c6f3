section
variable {s : St} {E : LEnv} {T : Nat → List Nat} {o a b : Nat}
/-- the things from i on that are so -/
def rest (p : Nat → Bool) (n i : Nat) : List Nat := (List.range' i (n - i)).filter p
theorem rest_end (p : Nat → Bool) {n i : Nat} (h : n ≤ i) : rest p n i = [] := by unfold rest; rw [show n - i = 0 by omega]; rfl
theorem rest_cons (p : Nat → Bool) {n i : Nat} (h : i < n) : rest p n i = if p i then i :: rest p n (i + 1) else rest p n (i + 1) := by
  unfold rest
  rw [show n - i = (n - (i + 1)) + 1 by omega, List.range'_succ, List.filter_cons]
theorem rest_0 (p : Nat → Bool) (n : Nat) : rest p n 0 = (List.range n).filter p := by unfold rest; rw [List.range_eq_range']; rfl
theorem add_m4 : F_X5_add o (-4) s = some s := by unfold F_X5_add; rw [if_pos (by decide)]
theorem names62x {X : Int32} {st x n : Nat} {p : Nat → Bool} (hn : n ≤ 24) (hc : s.1 1 3 = nI n) (hp : ∀ t, t < n → bt X t = p t) (hx : x < 24) : ∀ f i, i ≤ n → n < f + i →
    L_X2_readNames_62 o f (nI st) X (nI x) (nI i) s = if rest p n i = [] then (F_X5_add o (nI x) s).bind (fun q => some (1, q)) else some (0, (xup (xup s.1 80 9 5) 80 10 (nI st), s.2)) := by
  intro f
  induction f with
  | zero => intro i h1 h2; omega
  | succ f ih =>
    intro i h1 h2
    unfold L_X2_readNames_62
    rw [hc]
    have hm : ¬ nI x = -4 := nI_m4 (by omega)
    by_cases e : i = n
    · subst e
      rw [if_pos (nI_le (Nat.le_refl _) (by omega)), rest_end p (Nat.le_refl _), if_pos rfl]
      simp only [if_neg hm]
    · have hi : i < n := by omega
      rw [if_neg (nI_ge hi (by omega)), isIn9_k (by omega), hp i hi, rest_cons p hi]
      simp only [Option.bind_some, if_neg hm, nI_s]
      cases hpi : p i
      · simp only [Bool.false_eq_true, if_false, if_true]
        exact ih (i + 1) (by omega) (by omega)
      · simp [fail_k]
theorem names62n {X : Int32} {st n : Nat} {p : Nat → Bool} (hn : n ≤ 24) (hc : s.1 1 3 = nI n) (hp : ∀ t, t < n → bt X t = p t) : ∀ f i, i ≤ n → n < f + i →
    L_X2_readNames_62 o f (nI st) X (-4) (nI i) s = match rest p n i with
      | [] => some (0, (xup (xup s.1 80 9 4) 80 10 (nI st), s.2))
      | [x] => (F_X5_add o (nI x) s).bind (fun q => some (1, q))
      | _ => some (0, (xup (xup s.1 80 9 5) 80 10 (nI st), s.2)) := by
  intro f
  induction f with
  | zero => intro i h1 h2; omega
  | succ f ih =>
    intro i h1 h2
    unfold L_X2_readNames_62
    rw [hc]
    by_cases e : i = n
    · subst e
      rw [if_pos (nI_le (Nat.le_refl _) (by omega)), rest_end p (Nat.le_refl _), add_m4]
      simp [fail_k]
    · have hi : i < n := by omega
      rw [if_neg (nI_ge hi (by omega)), isIn9_k (by omega), hp i hi, rest_cons p hi]
      simp only [Option.bind_some, nI_s]
      cases hpi : p i
      · simp only [Bool.false_eq_true, if_false, if_true]
        exact ih (i + 1) (by omega) (by omega)
      · simp only [if_true, if_neg (show ¬ (1 : Int32) = 0 by decide)]
        rw [names62x hn hc hp (show i < 24 by omega) f (i + 1) (by omega) (by omega)]
        cases hr : rest p n (i + 1) with
        | nil => simp
        | cons y r => simp
/-- the class's readNames follows sNames -/
theorem readNames_k {X : Int32} {ow : Nat → Bool} {acc : List Nat} (hE : EOK E) (hs : CE s E) (ha : s.1 80 8 = nI a) (hk : ek E a = 23) (hX : ∀ t, t < eT E → bt X t = (eS E t && ow t)) (ho : CL s o acc) (ho80 : o = 86 ∨ o = 88 ∨ o = 90 ∨ o = 92) :
    (∀ e, sNames E ow a = .error e → ∃ s', F_X2_readNames o X s = some (0, s') ∧ CEr s s' o e) ∧
    (∀ l b, sNames E ow a = .ok (l, b) → ∃ s', F_X2_readNames o X s = some (1, s') ∧ COk s s' o b ∧ CL s' o (addAll acc l)) := by
  have h200 := hE.2.2.2.2.2.1
  have h24 := hE.2.1
  have ham := em_lt hE (a := a) (by omega)
  obtain ⟨n1, n2, n3, n4⟩ := nend_spec hE 201 a (by omega)
  obtain ⟨X', I', p1, p2, p3, p4, p5⟩ := names7 (o := o) (l3 := nI a) hE (n2 (by omega)) n3 300 a 0 201 X s n1 n4 (by have := n2 (by omega); omega) (by have := n2 (by omega); omega) (by omega) hs ha
  rw [nI_0] at p1
  have hc' : I' 1 3 = nI (eT E) := by rw [p3 1 (by omega)]; exact hs.1
  have hr := names62n (s := (I', s.2)) (o := o) (X := X') (st := a) (p := fun t => eS E t && (ow t && fits E (nend E 201 a) t 201 a)) h24 hc' (fun t ht => by rw [p2 t (by omega), hX t ht, Bool.and_assoc]) 300 0 (by omega) (by omega)
  have hF : F_X2_readNames o X s = L_X2_readNames_62 o 300 (nI a) X' (-4) (nI 0) (I', s.2) := by
    unfold F_X2_readNames
    rw [ha, p1, nI_0]; rfl
  have hc : rest (fun t => eS E t && (ow t && fits E (nend E 201 a) t 201 a)) (eT E) 0 = cands E ow a (nend E 201 a) := rest_0 _ _
  rw [hc] at hr
  have hlt : ∀ x ∈ cands E ow a (nend E 201 a), x < eT E := (range_ok _ _).2
  have ho' : CL (I', s.2) o acc := CL_congr ho (p3 o (by omega)) (p3 (o + 1) (by omega))
  have er : ∀ f : Nat, CEr s (xup (xup I' 80 9 (nI f)) 80 10 (nI a), s.2) o (f, a) := by
    intro f
    refine ⟨rfl, fun c h _ _ => ?_, ?_, ?_⟩
    · dsimp only; rw [xup_ne h, xup_ne h]; exact p3 c h
    · dsimp only; rw [xup_j (by omega), xup_eq]; rfl
    · dsimp only; rw [xup_eq]; rfl
  unfold sNames
  rw [if_pos hk, hF, hr]
  cases hcs : cands E ow a (nend E 201 a) with
  | nil =>
    refine ⟨fun e he => ?_, fun l b he => by cases he⟩
    cases he
    exact ⟨_, rfl, er 4⟩
  | cons x r =>
    cases r with
    | nil =>
      refine ⟨fun e he => (by cases he), fun l b he => ?_⟩
      cases he
      have hx : x < 24 := by have := hlt x (by rw [hcs]; simp); omega
      obtain ⟨I2, q1, q2, q3⟩ := add_k ho' hx
      dsimp only
      rw [q1]
      refine ⟨_, rfl, ⟨rfl, fun c c1 c2 c3 => ?_, ?_, ?_⟩, q2⟩
      · dsimp only; rw [q3 c c2 c3]; exact p3 c c1
      · dsimp only; rw [q3 80 (by omega) (by omega)]; exact p5
      · dsimp only; rw [q3 80 (by omega) (by omega)]; exact p4 9 (by omega)
    | cons y r =>
      refine ⟨fun e he => ?_, fun l b he => by cases he⟩
      cases he
      exact ⟨_, rfl, er 5⟩
theorem owned {X l2 : Int32} (hE : EOK E) (hs : CE s E) : ∀ f i (l2 : Int32), i ≤ eT E → eT E < f + i → ∃ r, L_X6_ownedBy_4 f X l2 (nI i) s = some (r, s) ∧ ∀ t, t < 24 → bt r t = (bt l2 t || (decide (i ≤ t ∧ t < eT E) && (decide (eO E t ≠ 99) && bt X (eO E t)))) := by
  have h24 := hE.2.1
  intro f
  induction f with
  | zero => intro i l2 h1 h2; omega
  | succ f ih =>
    intro i l2 h1 h2
    unfold L_X6_ownedBy_4
    rw [hs.1]
    by_cases e : i = eT E
    · rw [if_pos (nI_le (by omega) (by omega))]
      refine ⟨l2, rfl, fun t ht => ?_⟩
      have : ¬ (i ≤ t ∧ t < eT E) := by omega
      simp [this]
    · have hi : i < eT E := by omega
      rw [if_neg (nI_ge hi (by omega)), if_neg (grd (n := 24) (by omega) (by omega)), nI_clamp (by omega), hs.2.2.2.1 i hi]
      have ho : F_X9_isIn X (if eO E i = 99 then -4 else nI (eO E i)) s = some (if (decide (eO E i ≠ 99) && bt X (eO E i)) = true then 1 else 0, s) := by
        by_cases q : eO E i = 99
        · rw [if_pos q]; unfold F_X9_isIn; rw [if_pos (by decide)]; simp [q]
        · rw [if_neg q, isIn9_k (by have := hE.2.2.2.2.1 i hi; omega)]; simp [q]
      rw [ho]
      simp only [Option.bind_some, nI_s]
      cases hb : (decide (eO E i ≠ 99) && bt X (eO E i))
      · simp only [Bool.false_eq_true, if_false, if_true]
        obtain ⟨r, q1, q2⟩ := ih (i + 1) l2 (by omega) (by omega)
        refine ⟨r, q1, fun t ht => ?_⟩
        rw [q2 t ht]
        by_cases et : t = i
        · subst et; rw [hb]; simp
        · by_cases g : i + 1 ≤ t ∧ t < eT E
          · have g' : i ≤ t ∧ t < eT E := by omega
            simp [g, g']
          · have g' : ¬ (i ≤ t ∧ t < eT E) := by omega
            simp [g, g']
      · simp only [if_true, if_neg (show ¬ (1 : Int32) = 0 by decide)]
        rw [bitOf_k (by omega)]
        simp only [Option.bind_some]
        obtain ⟨r, q1, q2⟩ := ih (i + 1) (l2 ||| ((1 : Int32) <<< (nI i &&& 31))) (by omega) (by omega)
        refine ⟨r, q1, fun t ht => ?_⟩
        rw [q2 t ht, b_set (by omega) (by omega)]
        by_cases et : t = i
        · subst et; rw [hb]; simp [hi]
        · by_cases g : i + 1 ≤ t ∧ t < eT E
          · have g' : i ≤ t ∧ t < eT E := by omega
            simp [g, g', et]
          · have g' : ¬ (i ≤ t ∧ t < eT E) := by omega
            simp [g, g', et]
theorem readAll_loop {l2 : Int32} (hE : EOK E) (h80 : o = 86 ∨ o = 88 ∨ o = 90 ∨ o = 92) : ∀ f i n (acc : List Nat) (s : St), i ≤ eT E → eT E < f + i → n ≤ i → CE s E → CL s o acc → ∃ I', L_X2_readAll_13 o f l2 (nI n) (nI i) s = some (nI (n + (rest (fun t => eS E t && !(eK E t == 1 || eK E t == 2)) (eT E) i).length), (I', s.2)) ∧ CL (I', s.2) o (addAll acc (rest (fun t => eS E t && !(eK E t == 1 || eK E t == 2)) (eT E) i)) ∧ Fr s.1 I' o := by
  have h24 := hE.2.1
  intro f
  induction f with
  | zero => intro i n acc s h1 h2; omega
  | succ f ih =>
    intro i n acc s h1 h2 h3 hs ho
    unfold L_X2_readAll_13
    rw [hs.1]
    by_cases e : i = eT E
    · rw [if_pos (nI_le (by omega) (by omega)), rest_end _ (by omega)]
      exact ⟨s.1, rfl, ho, fun _ _ _ => rfl⟩
    · have hi : i < eT E := by omega
      rw [if_neg (nI_ge hi (by omega)), isSeen_k hs.1 hi h24, hs.2.2.1 i hi, rest_cons _ hi]
      simp only [Option.bind_some, nI_s]
      have hp : F_X6_isPerson (nI i) s = some (if (eK E i == 1 || eK E i == 2) = true then 1 else 0, s) := by
        unfold F_X6_isPerson
        have hk4 := hE.2.2.2.1 i hi
        rw [hs.1, if_neg (nI_pos (by omega)), if_neg (nI_ge hi (by omega)), if_neg (grd (n := 24) (by omega) (by omega)), nI_clamp (by omega), hs.2.1 i hi]
        rcases (show eK E i = 0 ∨ eK E i = 1 ∨ eK E i = 2 ∨ eK E i = 3 by omega) with q | q | q | q <;> rw [q] <;> rfl
      rw [hp]
      simp only [Option.bind_some]
      cases hS : eS E i
      · simp only [Bool.false_eq_true, if_false, if_true, Bool.false_and]
        exact ih (i + 1) n acc s (by omega) (by omega) (by omega) hs ho
      · simp only [if_true, if_neg (show ¬ (1 : Int32) = 0 by decide), Bool.true_and]
        cases hK : (eK E i == 1 || eK E i == 2)
        · simp only [Bool.false_eq_true, if_false, if_true, Bool.not_false]
          obtain ⟨I1, q1, q2, q3⟩ := add_k ho (show i < 24 by omega)
          rw [q1]
          simp only [Option.bind_some]
          obtain ⟨I2, p1, p2, p3⟩ := ih (i + 1) (n + 1) (add1 acc i) (I1, s.2) (by omega) (by omega) (by omega) (CE_congr hs (fun c q => q3 c (by omega) (by omega))) q2
          refine ⟨I2, (by rw [p1, List.length_cons, Nat.add_assoc, Nat.add_comm 1]), p2, fun c c1 c2 => by rw [p3 c c1 c2]; exact q3 c c1 c2⟩
        · simp only [if_true, if_neg (show ¬ (1 : Int32) = 0 by decide), Bool.not_true, Bool.false_eq_true, if_false]
          exact ih (i + 1) n acc s (by omega) (by omega) (by omega) hs ho
theorem pron_loop {l : List Nat} {q : Nat} (hq : ∀ c, c = q ∨ c = q + 1 → c ≠ o ∧ c ≠ o + 1) : ∀ f i (acc : List Nat) (s : St), i ≤ l.length → l.length < f + i → CL s q l → CL s o acc → ∃ I', L_X2_readPronoun_33 o f q (nI i) s = some (I', s.2) ∧ CL (I', s.2) o (addAll acc (l.drop i)) ∧ Fr s.1 I' o := by
  intro f
  induction f with
  | zero => intro i acc s h1 h2; omega
  | succ f ih =>
    intro i acc s h1 h2 hl ho
    have h24 := CL_len hl
    unfold L_X2_readPronoun_33
    rw [hl.1]
    by_cases e : i = l.length
    · rw [if_pos (nI_le (by omega) (by omega)), e, List.drop_length]
      exact ⟨s.1, rfl, ho, fun _ _ _ => rfl⟩
    · have hi : i < l.length := by omega
      have hx : l[i]? = some l[i] := List.getElem?_eq_getElem hi
      rw [if_neg (nI_ge hi (by omega)), lat_k hl hx, nI_s]
      simp only [Option.bind_some]
      obtain ⟨I1, q1, q2, q3⟩ := add_k ho (hl.2.2.2.1 _ (List.getElem_mem hi))
      rw [q1, List.drop_eq_getElem_cons hi]
      simp only [Option.bind_some]
      have := hq q (Or.inl rfl)
      have := hq (q + 1) (Or.inr rfl)
      obtain ⟨I2, p1, p2, p3⟩ := ih (i + 1) (add1 acc l[i]) (I1, s.2) (by omega) (by omega) (CL_congr hl (q3 q (by omega) (by omega)) (q3 (q + 1) (by omega) (by omega))) q2
      exact ⟨I2, p1, p2, fun c c1 c2 => by rw [p3 c c1 c2]; exact q3 c c1 c2⟩
end
