def COk2 (s s' : St) (o a : Nat) : Prop := s'.2 = s.2 ∧ (∀ c, c ≠ 80 → c ≠ o → c ≠ o + 1 → c ≠ 90 → c ≠ 91 → s'.1 c = s.1 c) ∧ s'.1 80 8 = nI a ∧ s'.1 80 9 = s.1 80 9
def CEr2 (s s' : St) (o : Nat) (e : Nat × Nat) : Prop := s'.2 = s.2 ∧ (∀ c, c ≠ 80 → c ≠ o → c ≠ o + 1 → c ≠ 90 → c ≠ 91 → s'.1 c = s.1 c) ∧ s'.1 80 9 = nI e.1 ∧ s'.1 80 10 = nI e.2
def Fol2 (s : St) (o : Nat) (F : Option (Int32 × St)) (R : Except (Nat × Nat) (List Nat × Nat)) : Prop :=
  (∀ e, R = .error e → ∃ s', F = some (0, s') ∧ CEr2 s s' o e) ∧ (∀ l b, R = .ok (l, b) → ∃ s', F = some (1, s') ∧ COk2 s s' o b ∧ CL s' o l)
/-- after the items: but, or not -/
def sTail (E : LEnv) (T : Nat → List Nat) (actor : Nat) (l : List Nat) (b : Nat) : Except (Nat × Nat) (List Nat × Nat) :=
  if ek E b = 20 then (match sItems E T actor 300 (b + 1) [] with
      | .error e => .error e
      | .ok (x, c) => if (addAll [] l).filter (fun t => !decide (t ∈ x)) = [] then .error (4, b) else .ok ((addAll [] l).filter (fun t => !decide (t ∈ x)), c))
    else .ok (addAll [] l, b)
def sBut (E : LEnv) (T : Nat → List Nat) (actor : Nat) (l : List Nat) (b f a : Nat) (raw : List Nat) : Except (Nat × Nat) (List Nat × Nat) :=
  match sItems E T actor f a raw with
  | .error e => .error e
  | .ok (x, c) => if l.filter (fun t => !decide (t ∈ x)) = [] then .error (4, b) else .ok (l.filter (fun t => !decide (t ∈ x)), c)
def sLis (E : LEnv) (T : Nat → List Nat) (actor : Nat) (f a : Nat) (raw : List Nat) : Except (Nat × Nat) (List Nat × Nat) :=
  match sItems E T actor f a raw with
  | .error e => .error e
  | .ok (l, b) => sTail E T actor l b
theorem sList_eq (E : LEnv) (T : Nat → List Nat) (actor a : Nat) : sList E T actor a = sLis E T actor 300 a [] := rfl
section
variable {s : St} {E : LEnv} {T : Nat → List Nat} {o a b actor : Nat}
theorem Fol2_of {s1 : St} {F : Option (Int32 × St)} {R : Except (Nat × Nat) (List Nat × Nat)} (h2 : s1.2 = s.2) (hf : ∀ c, c ≠ 80 → c ≠ o → c ≠ o + 1 → c ≠ 90 → c ≠ 91 → s1.1 c = s.1 c) (h9 : s1.1 80 9 = s.1 80 9) (h : Fol2 s1 o F R) : Fol2 s o F R := by
  refine ⟨fun e he => ?_, fun l b he => ?_⟩
  · obtain ⟨s', q1, q2, q3, q4, q5⟩ := h.1 e he
    exact ⟨s', q1, q2.trans h2, fun c c1 c2 c3 c4 c5 => (q3 c c1 c2 c3 c4 c5).trans (hf c c1 c2 c3 c4 c5), q4, q5⟩
  · obtain ⟨s', q1, ⟨q2, q3, q4, q5⟩, q6⟩ := h.2 l b he
    exact ⟨s', q1, ⟨q2.trans h2, fun c c1 c2 c3 c4 c5 => (q3 c c1 c2 c3 c4 c5).trans (hf c c1 c2 c3 c4 c5), q4, q5.trans h9⟩, q6⟩
theorem sep_k (hE : EOK E) (hs : CE s E) (ha : s.1 80 8 = nI a) (hal : a ≤ 200) : ∃ I', F_X2_skipSeparator s = some (if sSep E a = a then 0 else 1, (I', s.2)) ∧ (∀ c, c ≠ 80 → I' c = s.1 c) ∧ (∀ j, j ≠ 8 → I' 80 j = s.1 80 j) ∧ I' 80 8 = nI (sSep E a) := by
  have kn : ∀ {k c : Nat}, ek E k ≠ c → c < 40 → ¬ nI (ek E k) = nI c := fun {k c} h hc => nI_ne h (by have := ek_lt hE k; omega) (by omega)
  unfold F_X2_skipSeparator
  rw [ha, kindAt_k hE hs (by omega)]
  simp only [Option.bind_some]
  by_cases e21 : ek E a = 21
  · rw [if_pos (show nI (ek E a) = 21 by rw [e21]; rfl), ha, nI_s]
    have hs' : CE (xup s.1 80 8 (nI (a + 1)), s.2) E := CE_congr hs (fun c q => by dsimp only; rw [xup_ne (by omega)])
    unfold J_X2_skipSeparator_16
    simp only [xup_eq, if_true]
    rw [kindAt_k hE hs' (by omega)]
    simp only [Option.bind_some, xup_eq, if_true, nI_s]
    have hgt : ∀ k, a < k → k ≤ a + 2 → ¬ nI k ≤ nI a := fun k h1 h2 => nI_ge h1 (by omega)
    by_cases e3 : ek E (a + 1) = 3
    · rw [if_pos (show nI (ek E (a + 1)) = 3 by rw [e3]; rfl), kindAt_k hE hs' (by omega)]
      simp only [Option.bind_some, xup_eq, if_true, nI_s]
      by_cases e24 : ek E (a + 1 + 1) = 24
      · have hS : sSep E a = a + 1 := by unfold sSep; rw [if_pos e21, if_neg (fun q => q.2 e24)]
        rw [if_pos (show nI (ek E (a + 1 + 1)) = 24 by rw [e24]; rfl), if_neg (hgt _ (by omega) (by omega)), hS, if_neg (show ¬ a + 1 = a by omega)]
        exact ⟨_, rfl, fun c hc => xup_ne hc, fun j hj => xup_j hj, by rw [xup_eq]; rfl⟩
      · have hS : sSep E a = a + 2 := by unfold sSep; rw [if_pos e21, if_pos ⟨e3, e24⟩]
        rw [if_neg (show ¬ nI (ek E (a + 1 + 1)) = 24 from kn (c := 24) e24 (by omega)), if_neg (hgt _ (by omega) (by omega)), hS, if_neg (show ¬ a + 2 = a by omega)]
        exact ⟨xup (xup s.1 80 8 (nI (a + 1))) 80 8 (nI (a + 1 + 1)), rfl, fun c hc => by rw [xup_ne hc, xup_ne hc], fun j hj => by rw [xup_j hj, xup_j hj], by rw [xup_eq]; rfl⟩
    · have hS : sSep E a = a + 1 := by unfold sSep; rw [if_pos e21, if_neg (fun q => e3 q.1)]
      rw [if_neg (show ¬ nI (ek E (a + 1)) = 3 from kn (c := 3) e3 (by omega)), if_neg (hgt _ (by omega) (by omega)), hS, if_neg (show ¬ a + 1 = a by omega)]
      exact ⟨_, rfl, fun c hc => xup_ne hc, fun j hj => xup_j hj, by rw [xup_eq]; rfl⟩
  · rw [if_neg (show ¬ nI (ek E a) = 21 from kn (c := 21) e21 (by omega))]
    unfold J_X2_skipSeparator_16
    rw [ha, kindAt_k hE hs (by omega)]
    simp only [Option.bind_some, ha, nI_s]
    have hle : nI a ≤ nI a := nI_le (Nat.le_refl _) (by omega)
    by_cases e3 : ek E a = 3
    · rw [if_pos (show nI (ek E a) = 3 by rw [e3]; rfl), kindAt_k hE hs (by omega)]
      simp only [Option.bind_some, ha, xup_eq, if_true, nI_s]
      by_cases e24 : ek E (a + 1) = 24
      · have hS : sSep E a = a := by unfold sSep; rw [if_neg e21, if_neg (fun q => q.2 e24)]
        rw [if_pos (show nI (ek E (a + 1)) = 24 by rw [e24]; rfl), if_pos hle, hS, if_pos rfl]
        exact ⟨s.1, rfl, fun _ _ => rfl, fun _ _ => rfl, ha⟩
      · have hS : sSep E a = a + 1 := by unfold sSep; rw [if_neg e21, if_pos ⟨e3, e24⟩]
        rw [if_neg (show ¬ nI (ek E (a + 1)) = 24 from kn (c := 24) e24 (by omega)), if_neg (nI_ge (show a < a + 1 by omega) (by omega)), hS, if_neg (show ¬ a + 1 = a by omega)]
        exact ⟨_, rfl, fun c hc => xup_ne hc, fun j hj => xup_j hj, by rw [xup_eq]; rfl⟩
    · have hS : sSep E a = a := by unfold sSep; rw [if_neg e21, if_neg (fun q => e3 q.1)]
      rw [if_neg (show ¬ nI (ek E a) = 3 from kn (c := 3) e3 (by omega)), if_pos hle, hS, if_pos rfl]
      exact ⟨s.1, rfl, fun _ _ => rfl, fun _ _ => rfl, ha⟩
/-- the list without those left out, at its end -/
theorem rm_k {L X x : List Nat} {l3 : Int32} {c : Nat} (h80 : o = 86 ∨ o = 88) (ho : CL s o L) (hx : CL s 90 X) (hX : ∀ t, t ∈ X ↔ t ∈ x) (ha : s.1 80 8 = nI c) :
    (L.filter (fun t => !decide (t ∈ x)) = [] → ((F_X5_remove o (s.1 90 2) s).bind fun q => if (0 : Int32) < (q.1 o 1) then some ((1 : Int32), q) else ((F_X2_fail (4 : Int32) l3 q).bind fun q5 => if q5.1 = (0 : Int32) then (some ((0 : Int32), q5.2)) else (some ((1 : Int32), q5.2)))) = ((F_X5_remove o (s.1 90 2) s).bind fun q => some (0, (xup (xup q.1 80 9 4) 80 10 l3, q.2))) ∧ ∃ I', F_X5_remove o (s.1 90 2) s = some (I', s.2) ∧ Fr s.1 I' o) ∧
    (L.filter (fun t => !decide (t ∈ x)) ≠ [] → ∃ s', ((F_X5_remove o (s.1 90 2) s).bind fun q => if (0 : Int32) < (q.1 o 1) then some ((1 : Int32), q) else ((F_X2_fail (4 : Int32) l3 q).bind fun q5 => if q5.1 = (0 : Int32) then (some ((0 : Int32), q5.2)) else (some ((1 : Int32), q5.2)))) = some (1, s') ∧ COk2 s s' o c ∧ CL s' o (L.filter (fun t => !decide (t ∈ x)))) := by
  obtain ⟨I', q1, q2, q3⟩ := remove_k (X := s.1 90 2) (ex := x) ho (fun t ht => by rw [hx.2.2.2.2 t ht]; simp [hX])
  rw [q1]
  simp only [Option.bind_some, fail_k]
  have hlen := CL_len q2
  have q21 : I' o 1 = nI (L.filter (fun t => !decide (t ∈ x))).length := q2.1
  constructor
  · intro he
    refine ⟨?_, I', rfl, q3⟩
    rw [q21, he, if_neg (by decide)]; rfl
  · intro he
    refine ⟨(I', s.2), ?_, ⟨rfl, fun c c1 c2 c3 _ _ => q3 c c2 c3, ?_, ?_⟩, q2⟩
    · rw [q21, if_pos (show (0 : Int32) < nI (L.filter (fun t => !decide (t ∈ x))).length from nI_lt (a := 0) (List.length_pos_iff.mpr he) (by omega))]
    · dsimp only; rw [q3 80 (by omega) (by omega)]; exact ha
    · dsimp only; rw [q3 80 (by omega) (by omega)]
theorem list2 (hE : EOK E) (hTo : TOK E T) (hactor : actor < eT E) (h80 : o = 86 ∨ o = 88) {L : List Nat} {bt' : Nat} (hbt : bt' ≤ 200) : ∀ f a i raw (s : St), em E < f + a → a ≤ em E → i < a → CE s E → CT s T → CL s o L → CL s 90 (addAll [] raw) → s.1 80 8 = nI a → s.1 85 2 = nI actor → Fol2 s o (L_X2_readList_9 o f 90 (nI bt') (nI i) s) (sBut E T actor L bt' f a raw) := by
  have h200 := hE.2.2.2.2.2.1
  have kn : ∀ {k c : Nat}, ek E k ≠ c → c < 40 → ¬ nI (ek E k) = nI c := fun {k c} h hc => nI_ne h (by have := ek_lt hE k; omega) (by omega)
  intro f
  induction f with
  | zero => intro a i raw s h1 h2; omega
  | succ f ih =>
    intro a i raw s h1 h2 h3 hs hT ho hx ha hact
    unfold L_X2_readList_9
    rw [if_neg (show ¬ (200 : Int32) ≤ nI i from nI_ge (b := 200) (by omega) (by omega))]
    obtain ⟨r1, r2⟩ := readItem_k (o := 90) hE hs hT hTo ha (by omega) hx (by omega) hact hactor
    have hsB : sBut E T actor L bt' (f + 1) a raw = (match sItem E T actor a with
      | .error e => .error e
      | .ok (l, b) => if sSep E b = b then (if L.filter (fun t => !decide (t ∈ raw ++ l)) = [] then .error (4, bt') else .ok (L.filter (fun t => !decide (t ∈ raw ++ l)), b)) else sBut E T actor L bt' f (sSep E b) (raw ++ l)) := by
      unfold sBut
      conv => lhs; unfold sItems
      cases sItem E T actor a with
      | error e => rfl
      | ok q =>
        obtain ⟨l, b⟩ := q
        dsimp only
        by_cases es : sSep E b = b
        · rw [if_pos es, if_pos es]
        · rw [if_neg es, if_neg es]
    rw [hsB]
    cases hi : sItem E T actor a with
    | error e =>
      obtain ⟨s', q1, q2, q3, q4, q5⟩ := r1 e hi
      rw [q1]
      refine ⟨fun e' he => ?_, fun l b he => by cases he⟩
      cases he
      exact ⟨s', rfl, q2, fun c c1 c2 c3 c4 c5 => q3 c c1 c4 c5, q4, q5⟩
    | ok q =>
      obtain ⟨l, b⟩ := q
      obtain ⟨s', q1, ⟨q2, q3, q4, q5⟩, q6⟩ := r2 l b hi
      have hk := sItem_ok hE hTo hactor hi
      have hs' : CE s' E := CE_congr hs (fun c q => q3 c (by omega) (by omega) (by omega))
      have hT' : CT s' T := CT_congr hT (fun c x y => q3 c (by omega) (by omega) (by omega))
      have ho' : CL s' o L := CL_congr ho (q3 o (by omega) (by omega) (by omega)) (q3 (o + 1) (by omega) (by omega) (by omega))
      have hact' : s'.1 85 2 = nI actor := by rw [q3 85 (by omega) (by omega) (by omega)]; exact hact
      obtain ⟨I2, p1, p2, p3, p4⟩ := sep_k hE hs' q4 (by omega)
      rw [q1]
      simp only [Option.bind_some, if_neg (show ¬ (1 : Int32) = 0 by decide)]
      rw [p1]
      simp only [Option.bind_some]
      have hs2 : CE (I2, s'.2) E := CE_congr hs' (fun c q => p2 c (by omega))
      have hsep := sSep_le hE hk.2.1
      rw [← addAll_app] at q6
      by_cases es : sSep E b = b
      · rw [if_pos es, if_pos rfl, if_pos es]
        have hx2 : CL (I2, s'.2) 90 (addAll [] (raw ++ l)) := CL_congr q6 (p2 90 (by omega)) (p2 91 (by omega))
        have ho2 : CL (I2, s'.2) o L := CL_congr ho' (p2 o (by omega)) (p2 (o + 1) (by omega))
        have ha2 : I2 80 8 = nI b := by rw [p4, es]
        have hkk := kindAt_k (a := b) hE hs2 (by omega)
        rw [ha2, hkk]
        simp only [Option.bind_some]
        obtain ⟨m1, m2⟩ := rm_k (x := raw ++ l) (l3 := nI bt') h80 ho2 hx2 (fun t => by rw [addAll_mem]; simp) ha2
        rw [if_neg (show ¬ nI bt' = -4 from nI_m4 (by omega)), ite_self]
        apply Fol2_of (s1 := (I2, s'.2)) q2 (fun c c1 c2 c3 c4 c5 => (p2 c c1).trans (q3 c c1 c4 c5)) ((p3 9 (by omega)).trans q5)
        by_cases em0 : L.filter (fun t => !decide (t ∈ raw ++ l)) = []
        · rw [if_pos em0]
          obtain ⟨m3, I3, m4, m5⟩ := m1 em0
          refine ⟨fun e' he => ?_, fun l b he => by cases he⟩
          cases he
          rw [m3, m4]
          refine ⟨_, rfl, rfl, fun c c1 c2 c3 c4 c5 => ?_, ?_, ?_⟩
          · dsimp only; rw [xup_ne c1, xup_ne c1]; exact m5 c c2 c3
          · dsimp only; rw [xup_j (by omega), xup_eq]; rfl
          · dsimp only; rw [xup_eq]; rfl
        · rw [if_neg em0]
          refine ⟨fun e' he => (by cases he), fun l' b' he => ?_⟩
          cases he
          exact m2 em0
      · rw [if_neg es, if_neg (by decide), if_neg es, nI_s]
        apply Fol2_of (s1 := (I2, s'.2)) q2 (fun c c1 c2 c3 c4 c5 => (p2 c c1).trans (q3 c c1 c4 c5)) ((p3 9 (by omega)).trans q5)
        exact ih (sSep E b) (i + 1) (raw ++ l) (I2, s'.2) (by omega) (by omega) (by omega) hs2 (CT_congr hT' (fun c x y => p2 c (by omega))) (CL_congr ho' (p2 o (by omega)) (p2 (o + 1) (by omega))) (CL_congr q6 (p2 90 (by omega)) (p2 91 (by omega))) p4 (by dsimp only; rw [p2 85 (by omega)]; exact hact')
theorem list1 (hE : EOK E) (hTo : TOK E T) (hactor : actor < eT E) (h80 : o = 86 ∨ o = 88) : ∀ f a i raw (s : St), em E < f + a → a ≤ em E → i < a → CE s E → CT s T → CL s o (addAll [] raw) → (∀ x ∈ raw, x < eT E) → CL s 90 [] → s.1 80 8 = nI a → s.1 85 2 = nI actor → Fol2 s o (L_X2_readList_9 o f o (-4) (nI i) s) (sLis E T actor f a raw) := by
  have h200 := hE.2.2.2.2.2.1
  have kn : ∀ {k c : Nat}, ek E k ≠ c → c < 40 → ¬ nI (ek E k) = nI c := fun {k c} h hc => nI_ne h (by have := ek_lt hE k; omega) (by omega)
  intro f
  induction f with
  | zero => intro a i raw s h1 h2; omega
  | succ f ih =>
    intro a i raw s h1 h2 h3 hs hT ho hraw hx ha hact
    unfold L_X2_readList_9
    rw [if_neg (show ¬ (200 : Int32) ≤ nI i from nI_ge (b := 200) (by omega) (by omega))]
    obtain ⟨r1, r2⟩ := readItem_k (o := o) hE hs hT hTo ha (by omega) ho (by omega) hact hactor
    have hsB : sLis E T actor (f + 1) a raw = (match sItem E T actor a with
      | .error e => .error e
      | .ok (l, b) => if sSep E b = b then sTail E T actor (raw ++ l) b else sLis E T actor f (sSep E b) (raw ++ l)) := by
      unfold sLis
      conv => lhs; unfold sItems
      cases sItem E T actor a with
      | error e => rfl
      | ok q =>
        obtain ⟨l, b⟩ := q
        dsimp only
        by_cases es : sSep E b = b
        · rw [if_pos es, if_pos es]
        · rw [if_neg es, if_neg es]
    rw [hsB]
    cases hi : sItem E T actor a with
    | error e =>
      obtain ⟨s', q1, q2, q3, q4, q5⟩ := r1 e hi
      rw [q1]
      refine ⟨fun e' he => ?_, fun l b he => by cases he⟩
      cases he
      exact ⟨s', rfl, q2, fun c c1 c2 c3 c4 c5 => q3 c c1 c2 c3, q4, q5⟩
    | ok q =>
      obtain ⟨l, b⟩ := q
      obtain ⟨s', q1, ⟨q2, q3, q4, q5⟩, q6⟩ := r2 l b hi
      have hk := sItem_ok hE hTo hactor hi
      have hs' : CE s' E := CE_congr hs (fun c q => q3 c (by omega) (by omega) (by omega))
      have hT' : CT s' T := CT_congr hT (fun c x y => q3 c (by omega) (by omega) (by omega))
      have hx' : CL s' 90 [] := CL_congr hx (q3 90 (by omega) (by omega) (by omega)) (q3 91 (by omega) (by omega) (by omega))
      have hact' : s'.1 85 2 = nI actor := by rw [q3 85 (by omega) (by omega) (by omega)]; exact hact
      obtain ⟨I2, p1, p2, p3, p4⟩ := sep_k hE hs' q4 (by omega)
      rw [q1]
      simp only [Option.bind_some, if_neg (show ¬ (1 : Int32) = 0 by decide)]
      rw [p1]
      simp only [Option.bind_some]
      have hs2 : CE (I2, s'.2) E := CE_congr hs' (fun c q => p2 c (by omega))
      have hsep := sSep_le hE hk.2.1
      rw [← addAll_app] at q6
      have ho2 : CL (I2, s'.2) o (addAll [] (raw ++ l)) := CL_congr q6 (p2 o (by omega)) (p2 (o + 1) (by omega))
      have hx2 : CL (I2, s'.2) 90 [] := CL_congr hx' (p2 90 (by omega)) (p2 91 (by omega))
      have hT2 : CT (I2, s'.2) T := CT_congr hT' (fun c x y => p2 c (by omega))
      have hact2 : (I2, s'.2).1 85 2 = nI actor := by dsimp only; rw [p2 85 (by omega)]; exact hact'
      have hne : addAll [] (raw ++ l) ≠ [] := by
        intro q
        obtain ⟨x, hx⟩ := List.exists_mem_of_ne_nil l hk.2.2.1
        have : x ∈ addAll [] (raw ++ l) := addAll_mem.mpr (Or.inr (by simp [hx]))
        rw [q] at this; simp at this
      apply Fol2_of (s1 := (I2, s'.2)) q2 (fun c c1 c2 c3 c4 c5 => (p2 c c1).trans (q3 c c1 c2 c3)) ((p3 9 (by omega)).trans q5)
      by_cases es : sSep E b = b
      · rw [if_pos es, if_pos rfl, if_pos es]
        have ha2 : I2 80 8 = nI b := by rw [p4, es]
        rw [ha2, kindAt_k hE hs2 (by omega)]
        simp only [Option.bind_some]
        unfold sTail
        by_cases e20 : ek E b = 20
        · have hbm := em_lt hE (a := b) (by omega)
          rw [if_pos (show nI (ek E b) = 20 by rw [e20]; rfl), if_pos trivial, if_pos e20, ha2, nI_s, nI_s]
          have := list2 (L := addAll [] (raw ++ l)) hE hTo hactor h80 (show b ≤ 200 by omega) f (b + 1) (i + 1) [] (xup I2 80 8 (nI (b + 1)), s'.2) (by omega) (by omega) (by omega) (CE_congr hs2 (fun c q => by dsimp only; rw [xup_ne (by omega)])) (CT_congr hT2 (fun c x y => by dsimp only; rw [xup_ne (by omega)])) (CL_congr ho2 (by dsimp only; rw [xup_ne (by omega)]) (by dsimp only; rw [xup_ne (by omega)])) (CL_congr hx2 (by dsimp only; rw [xup_ne (by omega)]) (by dsimp only; rw [xup_ne (by omega)])) (by dsimp only; rw [xup_eq]; rfl) (by dsimp only; rw [xup_ne (by omega)]; exact hact2)
          have hfu := sItems_fuel hE hTo hactor f 300 (b + 1) [] (by omega) (by omega) (by omega)
          unfold sBut at this
          rw [hfu] at this
          exact Fol2_of (s1 := (xup I2 80 8 (nI (b + 1)), s'.2)) rfl (fun c c1 c2 c3 c4 c5 => by dsimp only; rw [xup_ne c1]) (by dsimp only; rw [xup_j (by omega)]) this
        · rw [if_neg (show ¬ nI (ek E b) = 20 from kn (c := 20) e20 (by omega)), if_neg e20]
          obtain ⟨m1, m2⟩ := rm_k (x := []) (l3 := -4) h80 ho2 hx2 (fun t => Iff.rfl) ha2
          have hf : (addAll [] (raw ++ l)).filter (fun t => !decide (t ∈ ([] : List Nat))) = addAll [] (raw ++ l) := List.filter_eq_self.mpr (by simp)
          rw [hf] at m2
          refine ⟨fun e' he => (by cases he), fun l' b' he => ?_⟩
          cases he
          exact m2 hne
      · rw [if_neg es, if_neg (by decide), if_neg es, nI_s]
        exact ih (sSep E b) (i + 1) (raw ++ l) (I2, s'.2) (by omega) (by omega) (by omega) hs2 hT2 ho2 (fun x hx => by
          rcases List.mem_append.mp hx with hx | hx
          · exact hraw x hx
          · exact hk.2.2.2.2 x hx) hx2 p4 hact2
theorem readList_k (hE : EOK E) (hs : CE s E) (hT : CT s T) (hTo : TOK E T) (ha : s.1 80 8 = nI a) (h0 : 0 < a) (ham : a ≤ em E) (ho : CL s o []) (h80 : o = 86 ∨ o = 88) (hact : s.1 85 2 = nI actor) (hactor : actor < eT E) : Fol2 s o (F_X2_readList o s) (sList E T actor a) := by
  have h200 := hE.2.2.2.2.2.1
  obtain ⟨I1, q1, q2, q3, q4⟩ := clear_k (s := s) (o := 90)
  unfold F_X2_readList
  rw [q1]
  simp only [Option.bind_some]
  have := list1 (o := o) hE hTo hactor h80 300 a 0 [] (I1, s.2) (by omega) ham h0 (CE_congr hs (fun c q => q3 c (by omega) (by omega))) (CT_congr hT (fun c x y => q3 c (by omega) (by omega))) (CL_congr ho (q3 o (by omega) (by omega)) (q3 (o + 1) (by omega) (by omega))) (by simp) q2 (by dsimp only; rw [q3 80 (by omega) (by omega)]; exact ha) (by dsimp only; rw [q3 85 (by omega) (by omega)]; exact hact)
  rw [nI_0] at this
  exact Fol2_of (s1 := (I1, s.2)) rfl (fun c c1 c2 c3 c4 c5 => q3 c c4 c5) (by dsimp only; rw [q3 80 (by omega) (by omega)]) this
end
