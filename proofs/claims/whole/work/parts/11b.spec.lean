/-! the line, abstractly: things, words and tokens as plain functions -/
abbrev LEnv : Type := Nat × (Nat → Bool) × (Nat → Nat) × (Nat → Nat) × (Nat → Nat → Bool) × (Nat → Nat → Bool) × (Nat → Nat) × Nat × (Nat → Nat) × (Nat → Nat) × Nat
def eT (E : LEnv) : Nat := E.1
def eS (E : LEnv) : Nat → Bool := E.2.1
def eK (E : LEnv) : Nat → Nat := E.2.2.1
def eO (E : LEnv) : Nat → Nat := E.2.2.2.1
def eN (E : LEnv) : Nat → Nat → Bool := E.2.2.2.2.1
def eA (E : LEnv) : Nat → Nat → Bool := E.2.2.2.2.2.1
def eF (E : LEnv) : Nat → Nat := E.2.2.2.2.2.2.1
def em (E : LEnv) : Nat := E.2.2.2.2.2.2.2.1
def ek (E : LEnv) : Nat → Nat := E.2.2.2.2.2.2.2.2.1
def ew (E : LEnv) : Nat → Nat := E.2.2.2.2.2.2.2.2.2.1
def eW (E : LEnv) : Nat := E.2.2.2.2.2.2.2.2.2.2
def EOK (E : LEnv) : Prop := 1 ≤ eT E ∧ eT E ≤ 24 ∧ eK E 0 = 1 ∧ (∀ t, t < eT E → eK E t < 4) ∧ (∀ t, t < eT E → eO E t < eT E ∨ eO E t = 99) ∧ em E ≤ 200 ∧ (∀ i, em E ≤ i → ek E i = 28) ∧ (∀ i, i < em E → ek E i < 27) ∧ (∀ i, 23 ≤ ek E i → ek E i ≤ 25 → ew E i < eW E) ∧ eW E ≤ 60 ∧ (∀ w, w < eW E → eF E w < 4)
def TOK (E : LEnv) (T : Nat → List Nat) : Prop := ∀ p, p < 4 → (T p).Nodup ∧ ∀ x ∈ T p, x < eT E
def pnOf (k : Nat) : Nat := if k = 8 ∨ k = 16 then 0 else if k = 9 ∨ k = 15 then 1 else if k = 10 then 2 else 3
def isFT (k : Nat) : Prop := (8 ≤ k ∧ k ≤ 11) ∨ (15 ≤ k ∧ k ≤ 17)
def mis (E : LEnv) (a : Nat) : Nat × Nat := (if ek E a = 26 then 2 else 3, a)
def allL (E : LEnv) : List Nat := (List.range (eT E)).filter (fun t => eS E t && !(eK E t == 1 || eK E t == 2))
def nend (E : LEnv) : Nat → Nat → Nat
  | 0, i => i
  | f + 1, i => if ek E i = 23 then nend E f (i + 1) else i
/-- the name words from a to b fit the thing t -/
def fits (E : LEnv) (b t : Nat) : Nat → Nat → Bool
  | 0, _ => true
  | f + 1, j => if j < b then (if j + 1 = b then eN E (ew E j) t else (eN E (ew E j) t || eA E (ew E j) t)) && fits E b t f (j + 1) else true
def cands (E : LEnv) (ow : Nat → Bool) (a b : Nat) : List Nat := (List.range (eT E)).filter (fun t => eS E t && (ow t && fits E b t 201 a))
def sNames (E : LEnv) (ow : Nat → Bool) (a : Nat) : Except (Nat × Nat) (List Nat × Nat) :=
  if ek E a = 23 then (match cands E ow a (nend E 201 a) with
    | [] => .error (4, a)
    | [x] => .ok ([x], nend E 201 a)
    | _ => .error (5, a)) else .error (mis E a)
def whose (k : Nat) : Prop := (15 ≤ k ∧ k ≤ 18) ∨ k = 10
/-- whose thing it may be -/
def ownP (E : LEnv) (T : Nat → List Nat) (k : Nat) (t : Nat) : Bool := if (15 ≤ k ∧ k ≤ 18) ∨ k = 10 then (if k = 18 then decide (eO E t = 0) else decide (eO E t ∈ T (pnOf k))) else true
def sItem (E : LEnv) (T : Nat → List Nat) (actor a : Nat) : Except (Nat × Nat) (List Nat × Nat) :=
  if ((8 ≤ ek E a ∧ ek E a ≤ 11) ∨ (15 ≤ ek E a ∧ ek E a ≤ 17)) ∧ T (pnOf (ek E a)) = [] then .error (6, a)
  else if ((8 ≤ ek E a ∧ ek E a ≤ 11) ∨ (15 ≤ ek E a ∧ ek E a ≤ 17)) ∧ (T (pnOf (ek E a))).all (eS E) = false then .error (7, a)
  else if ek E a = 19 then (if allL E = [] then .error (4, a) else .ok (allL E, a + 1))
  else if ek E a < 8 ∨ 14 < ek E a ∨ (ek E a = 10 ∧ ek E (a + 1) = 23) then
    sNames E (ownP E T (ek E a)) (if ((15 ≤ ek E a ∧ ek E a ≤ 18) ∨ ek E a = 10) ∨ ek E a ≤ 2 then a + 1 else a)
  else .ok (if ek E a = 12 ∨ ek E a = 13 then [0] else if ek E a = 14 then [actor] else T (pnOf (ek E a)), a + 1)
def sSep (E : LEnv) (a : Nat) : Nat := if ek E a = 21 then (if ek E (a + 1) = 3 ∧ ek E (a + 2) ≠ 24 then a + 2 else a + 1) else if ek E a = 3 ∧ ek E (a + 1) ≠ 24 then a + 1 else a
def sItems (E : LEnv) (T : Nat → List Nat) (actor : Nat) : Nat → Nat → List Nat → Except (Nat × Nat) (List Nat × Nat)
  | 0, _, _ => .error (0, 0)
  | f + 1, a, acc => match sItem E T actor a with
    | .error e => .error e
    | .ok (l, b) => if sSep E b = b then .ok (acc ++ l, b) else sItems E T actor f (sSep E b) (acc ++ l)
def sList (E : LEnv) (T : Nat → List Nat) (actor a : Nat) : Except (Nat × Nat) (List Nat × Nat) :=
  match sItems E T actor 300 a [] with
  | .error e => .error e
  | .ok (l, b) => if ek E b = 20 then (match sItems E T actor 300 (b + 1) [] with
      | .error e => .error e
      | .ok (x, c) => if (addAll [] l).filter (fun t => !decide (t ∈ x)) = [] then .error (4, b) else .ok ((addAll [] l).filter (fun t => !decide (t ∈ x)), c))
    else .ok (addAll [] l, b)
/-- verb, preposition, the two lists -/
abbrev Cmd : Type := Nat × Int32 × List Nat × List Nat
def sCmd (E : LEnv) (T : Nat → List Nat) (no actor a : Nat) : Except (Nat × Nat) (Cmd × Nat) :=
  if ek E a = 24 then (if no = 10 then .error (9, a) else
    if eF E (ew E a) = 0 then .ok ((ew E a, -4, [], []), a + 1) else
    match sList E T actor (a + 1) with
    | .error e => .error e
    | .ok (l1, b) => if eF E (ew E a) = 1 then .ok ((ew E a, -4, l1, []), b) else
      if ek E b = 25 then (match sList E T actor (b + 1) with
        | .error e => .error e
        | .ok (l2, c) => .ok ((ew E a, nI (ew E b), l1, l2), c))
      else if eF E (ew E a) = 3 then .ok ((ew E a, -4, l1, []), b) else .error (mis E b))
  else .error (mis E a)
def isEnd (E : LEnv) (a : Nat) : Prop := ek E a = 28 ∨ ek E a = 22 ∨ ek E a = 4
def isAnd (E : LEnv) (a : Nat) : Prop := ek E a = 3 ∧ ek E (a + 1) = 24
abbrev Ord : Type := Nat × Cmd
/-- the table, the orders of the line, the latest, all -/
abbrev Ab : Type := (Nat → List Nat) × List Ord × Ord × Int32
def up (T : Nat → List Nat) (p : Nat) (l : List Nat) : Nat → List Nat := fun q => if q = p then l else T q
def learn (E : LEnv) (T : Nat → List Nat) (l : List Nat) : Nat → List Nat := match l with
  | [] => T
  | [x] => if x = 0 then T else up T (eK E x) [x]
  | x :: y :: r => up T 3 (x :: y :: r)
def keepA (A : Ab) (T : Nat → List Nat) (o : Ord) : Ab := (T, A.2.1 ++ [o], o, A.2.2.2 + 1)
def sCmds (E : LEnv) (actor : Nat) : Nat → Ab → List Nat → Nat → Ab × Except (Nat × Nat) Nat
  | 0, A, _, _ => (A, .error (0, 0))
  | f + 1, A, ad, a => match sCmd E A.1 A.2.1.length actor a with
    | .error e => (A, .error e)
    | .ok (c, b) => if ek E b = 3 ∧ ek E (b + 1) = 24 then sCmds E actor f (keepA A (learn E (learn E (learn E A.1 ad) c.2.2.1) c.2.2.2) (actor, c)) [] (b + 1)
      else if ek E b = 28 ∨ ek E b = 22 ∨ ek E b = 4 then (keepA A (learn E (learn E (learn E A.1 ad) c.2.2.1) c.2.2.2) (actor, c), .ok b)
      else (A, .error (mis E b))
def sAgain (E : LEnv) (A : Ab) (a : Nat) : Ab × Except (Nat × Nat) Nat :=
  if A.2.2.2 = 0 then (A, .error (6, a))
  else if (A.2.2.1.1 :: (A.2.2.1.2.2.2.1 ++ A.2.2.1.2.2.2.2)).all (eS E) = false then (A, .error (7, a))
  else if A.2.1.length = 10 then (A, .error (9, a))
  else if ek E (a + 1) = 28 ∨ ek E (a + 1) = 22 ∨ ek E (a + 1) = 4 then (keepA A A.1 A.2.2.1, .ok (a + 1))
  else (A, .error (mis E (a + 1)))
def sWho (E : LEnv) (A : Ab) (a bh : Nat) : Ab × Except (Nat × Nat) Nat := match sItem E A.1 0 a with
  | .error e => (A, .error e)
  | .ok (l, b) => match l with
    | [x] => if x = 0 ∨ ¬ (eK E x = 1 ∨ eK E x = 2) then (A, .error (8, a)) else if ek E b = bh then sCmds E x 300 A [x] (b + 1) else (A, .error (mis E b))
    | _ => (A, .error (8, a))
def sOrd (E : LEnv) (A : Ab) (a : Nat) : Ab × Except (Nat × Nat) Nat :=
  if ek E a = 7 then sAgain E A a else if ek E a = 24 then sCmds E 0 300 A [] a else if ek E a = 5 then sWho E A (a + 1) 6 else sWho E A a 21
def sSkip (E : LEnv) : Nat → Nat → Nat
  | 0, a => a
  | f + 1, a => if ek E a = 22 ∨ ek E a = 4 then sSkip E f (a + 1) else a
def sLine (E : LEnv) : Nat → Ab → Nat → Ab × Option (Nat × Nat)
  | 0, A, _ => (A, none)
  | f + 1, A, a => if ek E (sSkip E 300 a) = 28 then (A, none) else match sOrd E A (sSkip E 300 a) with
    | (A', .error e) => (A', some e)
    | (A', .ok b) => sLine E f A' b
theorem pn_lt (k : Nat) : pnOf k < 4 := by
  unfold pnOf
  split
  · omega
  · split
    · omega
    · split <;> omega
/-! progress -/
section
variable {E : LEnv} {T : Nat → List Nat} {actor a b : Nat}
theorem em_lt (hE : EOK E) (h : ek E a ≠ 28) : a < em E := by
  rcases Nat.lt_or_ge a (em E) with q | q
  · exact q
  · exact absurd (hE.2.2.2.2.2.2.1 a q) h
theorem nend_spec (hE : EOK E) : ∀ f a, em E < f + a → a ≤ nend E f a ∧ (a ≤ em E → nend E f a ≤ em E) ∧ ek E (nend E f a) ≠ 23 ∧ (∀ j, a ≤ j → j < nend E f a → ek E j = 23) := by
  intro f
  induction f with
  | zero =>
    intro a h
    refine ⟨Nat.le_refl _, fun q => q, ?_, fun j x y => ?_⟩
    · show ek E a ≠ 23
      rw [hE.2.2.2.2.2.2.1 a (by omega)]; omega
    · have y : j < a := y
      omega
  | succ f ih =>
    intro a h
    unfold nend
    by_cases e : ek E a = 23
    · rw [if_pos e]
      have ha := em_lt hE (a := a) (by omega)
      obtain ⟨q1, q2, q3, q4⟩ := ih (a + 1) (by omega)
      refine ⟨by omega, fun _ => q2 (by omega), q3, fun j x y => ?_⟩
      by_cases ej : j = a
      · rw [ej]; exact e
      · exact q4 j (by omega) y
    · rw [if_neg e]
      exact ⟨Nat.le_refl _, fun q => q, e, fun j x y => by omega⟩
theorem nend_lt (hE : EOK E) (h : ek E a = 23) : a < nend E 201 a ∧ nend E 201 a ≤ em E := by
  have ha := em_lt hE (a := a) (by omega)
  have := hE.2.2.2.2.2.1
  obtain ⟨q1, q2, q3, q4⟩ := nend_spec hE 201 a (by omega)
  refine ⟨?_, q2 (by omega)⟩
  rcases Nat.lt_or_ge a (nend E 201 a) with q | q
  · exact q
  · exact absurd h (by have : nend E 201 a = a := by omega
                       rw [this] at q3; exact q3)
theorem range_ok (p : Nat → Bool) (n : Nat) : ((List.range n).filter p).Nodup ∧ ∀ x ∈ (List.range n).filter p, x < n :=
  ⟨List.nodup_range.filter _, fun x hx => List.mem_range.mp (List.mem_filter.mp hx).1⟩
theorem sNames_ok {ow : Nat → Bool} {l : List Nat} (hE : EOK E) (h : sNames E ow a = .ok (l, b)) : a < b ∧ b ≤ em E ∧ l ≠ [] ∧ l.Nodup ∧ ∀ x ∈ l, x < eT E := by
  unfold sNames at h
  split at h
  · rename_i hk
    have hb := nend_lt hE hk
    have hr := range_ok (fun t => eS E t && (ow t && fits E (nend E 201 a) t 201 a)) (eT E)
    split at h
    · cases h
    · rename_i x hx
      cases h
      unfold cands at hx
      rw [hx] at hr
      exact ⟨hb.1, hb.2, by simp, by simp, hr.2⟩
    · cases h
  · cases h
theorem sItem_ok {l : List Nat} (hE : EOK E) (hT : TOK E T) (ha : actor < eT E) (h : sItem E T actor a = .ok (l, b)) : a < b ∧ b ≤ em E ∧ l ≠ [] ∧ l.Nodup ∧ ∀ x ∈ l, x < eT E := by
  unfold sItem at h
  split at h
  · cases h
  rename_i g1
  split at h
  · cases h
  split at h
  · rename_i g3
    split at h
    · cases h
    · rename_i g4
      cases h
      have := em_lt hE (a := a) (by omega)
      exact ⟨by omega, by omega, g4, range_ok _ _⟩
  split at h
  · have := sNames_ok hE h
    split at this
    · exact ⟨by omega, this.2⟩
    · exact this
  · rename_i g3 g4
    cases h
    have hm := em_lt hE (a := a) (by omega)
    have h0 := hE.1
    refine ⟨by omega, by omega, ?_⟩
    split
    · exact ⟨by simp, by simp, by simp; omega⟩
    · split
      · exact ⟨by simp, by simp, by simp; omega⟩
      · have : pnOf (ek E a) < 4 := pn_lt _
        exact ⟨fun q => g1 ⟨by omega, q⟩, hT _ this⟩
theorem sSep_le (hE : EOK E) (hb : b ≤ em E) : b ≤ sSep E b ∧ sSep E b ≤ em E := by
  unfold sSep
  split
  · rename_i h
    have := em_lt hE (a := b) (by omega)
    split
    · rename_i h2
      have := em_lt hE (a := b + 1) (by omega)
      omega
    · omega
  · split
    · rename_i h2
      have := em_lt hE (a := b) (by omega)
      omega
    · omega
theorem sItems_ok (hE : EOK E) (hT : TOK E T) (ha : actor < eT E) : ∀ f a acc l b, sItems E T actor f a acc = .ok (l, b) → (∀ x ∈ acc, x < eT E) → a < b ∧ b ≤ em E ∧ l ≠ [] ∧ ∀ x ∈ l, x < eT E := by
  intro f
  induction f with
  | zero => intro a acc l b h; cases h
  | succ f ih =>
    intro a acc l b h hacc
    unfold sItems at h
    split at h
    · cases h
    · rename_i l' b' hi
      obtain ⟨q1, q2, q3, q4, q5⟩ := sItem_ok hE hT ha hi
      have hacc' : ∀ x ∈ acc ++ l', x < eT E := by
        intro x hx
        rcases List.mem_append.mp hx with hx | hx
        · exact hacc x hx
        · exact q5 x hx
      split at h
      · cases h
        exact ⟨q1, q2, by simp [q3], hacc'⟩
      · have hs := sSep_le hE q2
        obtain ⟨p1, p2⟩ := ih _ _ _ _ h hacc'
        exact ⟨by omega, p2⟩
/-- fuel enough is fuel enough -/
theorem sItems_fuel (hE : EOK E) (hT : TOK E T) (ha : actor < eT E) : ∀ f f' a acc, a ≤ em E → em E < f + a → em E < f' + a → sItems E T actor f a acc = sItems E T actor f' a acc := by
  intro f
  induction f with
  | zero => intro f' a acc h0 h h'; omega
  | succ f ih =>
    intro f' a acc h0 h h'
    cases f' with
    | zero => omega
    | succ f' =>
      unfold sItems
      cases hi : sItem E T actor a with
      | error e => rfl
      | ok q =>
        obtain ⟨l, b⟩ := q
        have hq := sItem_ok hE hT ha hi
        have hs := sSep_le hE hq.2.1
        dsimp only
        split
        · rfl
        · exact ih f' _ _ hs.2 (by omega) (by omega)
end
