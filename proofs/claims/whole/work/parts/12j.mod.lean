/-- what a command leaves as it was -/
def MF3 (s s' : St) : Prop := s'.2 = s.2 ∧ (∀ c, c ≠ 94 → ¬ (107 ≤ c ∧ c ≤ 117) → s'.1 c = s.1 c) ∧ (∀ j, j < 16 → s'.1 94 j = s.1 94 j)
theorem MF3_refl (s : St) : MF3 s s := ⟨rfl, fun _ _ _ => rfl, fun _ _ => rfl⟩
theorem MF3_trans {s s1 s2 : St} (h : MF3 s s1) (h' : MF3 s1 s2) : MF3 s s2 := ⟨h'.1.trans h.1, fun c a b => (h'.2.1 c a b).trans (h.2.1 c a b), fun j a => (h'.2.2 j a).trans (h.2.2 j a)⟩
theorem MF3_of2 {s s' : St} (h : MF2 s s') : MF3 s s' := ⟨h.1, fun c a b => h.2.1 c a (by omega) (by omega), fun j a => h.2.2 j (by omega) (by omega) (by omega) (by omega) (by omega)⟩
theorem MF3_of {s s' : St} (h : MF s s') : MF3 s s' := MF3_of2 (MF2_of h)
theorem ME_MF3 {s s' : St} {E : LEnv} (h : ME s E) (m : MF3 s s') : ME s' E := ME_congr h (fun c a b => m.2.1 c (by omega) (by omega)) (m.2.2 1 (by omega))
def FolP (s : St) (F : Option (Int32 × St)) (R : Ab × Except (Nat × Nat) Nat) : Prop :=
  ∃ x s', F = some (x, s') ∧ MF3 s s' ∧ MA s' R.1 ∧ (∀ e, R.2 = .error e → x = 0 ∧ s'.1 94 17 = nI e.1 ∧ s'.1 94 18 = s.1 106 e.2) ∧ (∀ b, R.2 = .ok b → x = 1 ∧ s'.1 94 17 = s.1 94 17 ∧ s'.1 94 16 = nI b)
theorem FolP_of {s s1 : St} {F : Option (Int32 × St)} {R : Ab × Except (Nat × Nat) Nat} (m : MF3 s s1) (h17 : s1.1 94 17 = s.1 94 17) (h : FolP s1 F R) : FolP s F R := by
  obtain ⟨x, s', q1, q2, q3, q4, q5⟩ := h
  refine ⟨x, s', q1, MF3_trans m q2, q3, fun e he => ?_, fun b hb => ?_⟩
  · obtain ⟨w1, w2, w3⟩ := q4 e he
    exact ⟨w1, w2, by rw [w3, m.2.1 106 (by omega) (by omega)]⟩
  · obtain ⟨w1, w2, w3⟩ := q5 b hb
    exact ⟨w1, by rw [w2, h17], w3⟩
theorem FolP_01 {s : St} {F : Option (Int32 × St)} {R : Ab × Except (Nat × Nat) Nat} (h : FolP s F R) : FolP s (F.bind fun q => if q.1 = 0 ∨ q.1 = 1 then some (q.1, q.2) else none) R := by
  obtain ⟨x, s', q1, q2, q3, q4, q5⟩ := h
  refine ⟨x, s', if01 (P := True) q1 ?_, q2, q3, q4, q5⟩
  cases hR : R.2 with
  | error e => exact Or.inl (q4 e hR).1
  | ok b => exact Or.inr (q5 b hR).1
theorem FolP_er {s s' : St} {F : Option (Int32 × St)} {A : Ab} {e : Nat × Nat} (hF : F = some (0, s')) (m : MF3 s s') (hA : MA s' A) (h17 : s'.1 94 17 = nI e.1) (h18 : s'.1 94 18 = s.1 106 e.2) : FolP s F (A, .error e) :=
  ⟨0, s', hF, m, hA, fun e' he => by cases he; exact ⟨rfl, h17, h18⟩, fun b hb => (by cases hb)⟩
theorem FolP_ok {s s' : St} {F : Option (Int32 × St)} {A : Ab} {b : Nat} (hF : F = some (1, s')) (m : MF3 s s') (hA : MA s' A) (h17 : s'.1 94 17 = s.1 94 17) (h16 : s'.1 94 16 = nI b) : FolP s F (A, .ok b) :=
  ⟨1, s', hF, m, hA, fun e' he => (by cases he), fun b hb => by cases hb; exact ⟨rfl, h17, h16⟩⟩
/-- one command, its end, and what is kept -/
def sCmd1 (E : LEnv) (actor : Nat) (A : Ab) (ad : List Nat) (a : Nat) : Ab × Except (Nat × Nat) Nat := match sCmd E A.1 A.2.1.length actor a with
  | .error e => (A, .error e)
  | .ok (c, b) => if (ek E b = 3 ∧ ek E (b + 1) = 24) ∨ (ek E b = 28 ∨ ek E b = 22 ∨ ek E b = 4) then (keepA A (learn E (learn E (learn E A.1 ad) c.2.2.1) c.2.2.2) (actor, c), .ok b) else (A, .error (mis E b))
section
variable {s : St} {E : LEnv} {T : Nat → List Nat} {a b p actor n sd : Nat} {l : List Nat}
/-- both lists into the table, and the draft among the orders -/
theorem fin_k {A : Ab} {r : Ord} (hE : EOK E) (hs : ME s E) (hB : MB s A T r) (hn : A.2.1.length < 10) (hTo : TOK E T) (hr : ROK E r) :
    ∃ s', ((F_X10_sets 0 s).bind fun q31 => (F_X10_sets 1 q31).bind fun q32 => (F_X10_understood q32).bind fun q33 => some ((1 : Int32), q33)) = some (1, s') ∧ MF3 s s' ∧ (∀ j, ¬ (24 ≤ j ∧ j ≤ 28) → s'.1 94 j = s.1 94 j) ∧ MA s' (keepA A (learn E (learn E T r.2.2.2.1) r.2.2.2.2) r) := by
  obtain ⟨s1, a1, a2, a3, a4⟩ := sets_k (sd := 0) hE hs hB hn hTo hr (by omega)
  rw [if_pos rfl] at a4
  rw [nI_0] at a1
  have hs1 : ME s1 E := ME_congr hs (fun c x y => a3 c (by omega) (by omega)) (by rw [a3 94 (by omega) (by omega)])
  have hB1 : MB s1 A (learn E T r.2.2.2.1) r := by
    obtain ⟨⟨h1, h2, h3, h4, h5, h6⟩, h7⟩ := hB
    exact ⟨⟨a4, by rw [a3 94 (by omega) (by omega)]; exact h2, h3, by rw [a3 94 (by omega) (by omega)]; exact h4, fun i r' hr' => MOr_congr (h5 i r' hr') (fun c x y => a3 c (by omega) (by omega)), MLa_congr h6 (a3 _ (by omega) (by omega)) (a3 _ (by omega) (by omega)) (fun j _ _ => by rw [a3 94 (by omega) (by omega)])⟩, MOr_congr h7 (fun c x y => a3 c (by omega) (by omega))⟩
  have hTo1 := TOK_learn hE hTo hr.2.1.1 hr.2.1.2
  obtain ⟨s2, b1, b2, b3, b4⟩ := sets_k (sd := 1) hE hs1 hB1 hn hTo1 hr (by omega)
  rw [if_neg (by omega)] at b4
  have hB2 : MB s2 A (learn E (learn E T r.2.2.2.1) r.2.2.2.2) r := by
    obtain ⟨⟨h1, h2, h3, h4, h5, h6⟩, h7⟩ := hB1
    exact ⟨⟨b4, by rw [b3 94 (by omega) (by omega)]; exact h2, h3, by rw [b3 94 (by omega) (by omega)]; exact h4, fun i r' hr' => MOr_congr (h5 i r' hr') (fun c x y => b3 c (by omega) (by omega)), MLa_congr h6 (b3 _ (by omega) (by omega)) (b3 _ (by omega) (by omega)) (fun j _ _ => by rw [b3 94 (by omega) (by omega)])⟩, MOr_congr h7 (fun c x y => b3 c (by omega) (by omega))⟩
  obtain ⟨s3, c1, c2, c3, c4, c5⟩ := und_k hB2 hn (ROK_len hE hr)
  rw [a1, Option.bind_some, show (1 : Int32) = nI 1 from rfl, b1, Option.bind_some, c1, Option.bind_some]
  refine ⟨s3, rfl, ⟨by rw [c2, b2, a2], fun c x y => ?_, fun j x => ?_⟩, fun j x => ?_, c5⟩
  · rw [c3 c x (by omega) (by omega), b3 c (by omega) (by omega), a3 c (by omega) (by omega)]
  · rw [c4 j (by omega), b3 94 (by omega) (by omega), a3 94 (by omega) (by omega)]
  · rw [c4 j x, b3 94 (by omega) (by omega), a3 94 (by omega) (by omega)]
def adOf (actor : Nat) (l2 : Int32) : List Nat := if actor = 0 then [] else if l2 = 0 then [] else [actor]
theorem j163 {A : Ab} {c : Cmd} {l2 : Int32} (hE : EOK E) (hs : ME s E) (hB : MB s A A.1 (actor, c)) (hn : A.2.1.length < 10) (hTo : TOK E A.1) (hr : ROK E (actor, c)) (hb : s.1 94 16 = nI b) :
    FolP s (J_X10_command_163 (nI actor) l2 s) (keepA A (learn E (learn E (learn E A.1 (adOf actor l2)) c.2.2.1) c.2.2.2) (actor, c), .ok b) := by
  have hx : actor < eT E := hr.1
  have h24 := hE.2.1
  have hk := hE.2.2.2.1 actor hx
  unfold J_X10_command_163 adOf
  have hpl : FolP s ((F_X10_sets 0 s).bind fun q31 => (F_X10_sets 1 q31).bind fun q32 => (F_X10_understood q32).bind fun q33 => some ((1 : Int32), q33)) (keepA A (learn E (learn E (learn E A.1 []) c.2.2.1) c.2.2.2) (actor, c), .ok b) := by
    obtain ⟨s', q1, q2, q3, q4⟩ := fin_k hE hs hB hn hTo hr
    exact FolP_ok q1 q2 q4 (q3 17 (by omega)) (by rw [q3 16 (by omega)]; exact hb)
  by_cases c0 : actor = 0
  · rw [if_pos (by rw [c0]; rfl), if_pos c0]; exact hpl
  rw [if_neg (nI_ne0 (by omega) (by omega)), if_neg c0]
  by_cases c2 : l2 = 0
  · rw [if_pos c2, if_pos c2]; exact hpl
  rw [if_neg c2, if_neg c2, if_neg (grd (n := 24) (by omega) (by omega)), nI_clamp (by omega), hs.2.1 actor hx, if_neg (grd (n := 4) hk (by omega)), nI_clamp (by omega)]
  dsimp only
  rw [xup_ne (show 96 ≠ 115 by omega), hs.2.1 actor hx, nI24, if_neg (grd (n := 96) (by omega) (by omega)), nI_clamp (by omega)]
  -- the actor in the table
  obtain ⟨J, hJ, jc, jT⟩ : ∃ J : Nat → Nat → Int32, J = xup (xup s.1 115 (eK E actor) 1) 114 (24 * eK E actor) (nI actor) ∧ (∀ c, c ≠ 114 → c ≠ 115 → J c = s.1 c) ∧ MT (J, s.2) (learn E A.1 [actor]) := by
    refine ⟨_, rfl, fun c x y => by rw [xup_ne x, xup_ne y], ?_⟩
    show MT _ (if actor = 0 then A.1 else up A.1 (eK E actor) [actor])
    rw [if_neg c0]
    refine MT_up hB.1.1 hk ?_ (fun q hq => ?_) (fun k x hx => ?_) (fun j hj => ?_) (fun q hq => TOK_len hE hTo hq)
    · dsimp only; rw [xup_ne (by omega), xup_eq, if_pos rfl]; rfl
    · dsimp only; rw [xup_ne (by omega), xup_j hq]
    · have hk0 : k = 0 := by
        have := (List.getElem?_eq_some_iff.mp hx).1; simpa using this
      subst hk0
      have hx : some actor = some x := hx
      cases hx
      dsimp only; rw [xup_eq, if_pos (by omega)]
    · dsimp only; rw [xup_j (by omega), xup_ne (by omega)]
  rw [← hJ]
  have hs' : ME (J, s.2) E := ME_congr hs (fun c x y => jc c (by omega) (by omega)) (by dsimp only; rw [jc 94 (by omega) (by omega)])
  have hB' : MB (J, s.2) A (learn E A.1 [actor]) (actor, c) := by
    obtain ⟨⟨h1, h2, h3, h4, h5, h6⟩, h7⟩ := hB
    exact ⟨⟨jT, by dsimp only; rw [jc 94 (by omega) (by omega)]; exact h2, h3, by dsimp only; rw [jc 94 (by omega) (by omega)]; exact h4, fun i r' hr' => MOr_congr (h5 i r' hr') (fun c x y => jc c (by omega) (by omega)), MLa_congr h6 (jc _ (by omega) (by omega)) (jc _ (by omega) (by omega)) (fun j _ _ => by dsimp only; rw [jc 94 (by omega) (by omega)])⟩, MOr_congr h7 (fun c x y => jc c (by omega) (by omega))⟩
  obtain ⟨s', q1, q2, q3, q4⟩ := fin_k hE hs' hB' hn (TOK_learn hE hTo (by simp) (by simp; exact hx)) hr
  have m : MF3 s (J, s.2) := ⟨rfl, fun c x y => jc c (by omega) (by omega), fun j x => by dsimp only; rw [jc 94 (by omega) (by omega)]⟩
  refine FolP_ok q1 (MF3_trans m q2) q4 ?_ ?_
  · rw [q3 17 (by omega)]; dsimp only; rw [jc 94 (by omega) (by omega)]
  · rw [q3 16 (by omega)]; dsimp only; rw [jc 94 (by omega) (by omega)]; exact hb
theorem between_k (hE : EOK E) (hs : ME s E) (hb : s.1 94 16 = nI b) (hl : b ≤ em E) : F_X10_isBetween s = some (if ek E b = 22 ∨ ek E b = 4 then 1 else 0, s) := by
  obtain ⟨g1, g2, g3⟩ := tok_g hE hs hb hl
  have hc := enc_cases hE b
  unfold F_X10_isBetween
  rw [if_neg g1, g2]
  by_cases k1 : ek E b = 22
  · rw [if_pos (show nI (encN E b) = 31 from tok_y hE (c := 31) (by omega)), if_pos (Or.inl k1)]
  · rw [if_neg (show ¬ nI (encN E b) = 31 from tok_n hE (c := 31) (by omega) (by omega))]
    by_cases k2 : ek E b = 4
    · rw [if_pos (show nI (encN E b) = 4 from tok_y hE (c := 4) (by omega)), if_pos (Or.inr k2)]
    · rw [if_neg (show ¬ nI (encN E b) = 4 from tok_n hE (c := 4) (by omega) (by omega)), if_neg (by omega)]
theorem bt_y (hE : EOK E) (hs : ME s E) (hb : s.1 94 16 = nI b) (hl : b ≤ em E) (h : ek E b = 22 ∨ ek E b = 4) : F_X10_isBetween s = some (1, s) := by rw [between_k hE hs hb hl, if_pos h]
theorem bt_n (hE : EOK E) (hs : ME s E) (hb : s.1 94 16 = nI b) (hl : b ≤ em E) (h : ¬ (ek E b = 22 ∨ ek E b = 4)) : F_X10_isBetween s = some (0, s) := by rw [between_k hE hs hb hl, if_neg h]
/-- the end of a command -/
theorem j140 {A : Ab} {c : Cmd} {l2 : Int32} (hE : EOK E) (hs : ME s E) (hB : MB s A A.1 (actor, c)) (hn : A.2.1.length < 10) (hTo : TOK E A.1) (hr : ROK E (actor, c)) (hb : s.1 94 16 = nI b) (hl : b ≤ em E) :
    FolP s (J_X10_command_140 (nI actor) l2 s) (if (ek E b = 3 ∧ ek E (b + 1) = 24) ∨ (ek E b = 28 ∨ ek E b = 22 ∨ ek E b = 4) then (keepA A (learn E (learn E (learn E A.1 (adOf actor l2)) c.2.2.1) c.2.2.2) (actor, c), .ok b) else (A, .error (mis E b))) := by
  obtain ⟨g1, g2, g3⟩ := tok_g hE hs hb hl
  have hc := enc_cases hE b
  have h163 := j163 (l2 := l2) hE hs hB hn hTo hr hb
  have h150 : ¬ (ek E b = 3 ∧ ek E (b + 1) = 24) → FolP s (J_X10_command_150 (nI actor) l2 s) (if (ek E b = 3 ∧ ek E (b + 1) = 24) ∨ (ek E b = 28 ∨ ek E b = 22 ∨ ek E b = 4) then (keepA A (learn E (learn E (learn E A.1 (adOf actor l2)) c.2.2.1) c.2.2.2) (actor, c), .ok b) else (A, .error (mis E b))) := by
    intro hno
    unfold J_X10_command_150
    by_cases k1 : ek E b = 22 ∨ ek E b = 4
    · rw [bt_y hE hs hb hl k1, Option.bind_some]
      dsimp only
      rw [if_neg (by decide), if_pos (Or.inr (Or.inr k1))]
      exact h163
    · rw [bt_n hE hs hb hl k1, Option.bind_some]
      dsimp only
      rw [if_pos rfl, if_neg g1, g2]
      by_cases k2 : ek E b = 28
      · rw [if_pos (show nI (encN E b) = 33 from tok_y hE (c := 33) (by omega)), if_pos (Or.inr (Or.inl k2))]
        exact h163
      · rw [if_neg (show ¬ nI (encN E b) = 33 from tok_n hE (c := 33) (by omega) (by omega)), if_neg (by omega)]
        obtain ⟨s', q1, q2, q3, q4⟩ := wrong_m hE hs hb hl
        exact FolP_er (if01 (P := True) q1 (Or.inl rfl)) (MF3_of q2) (MA_MF2 hB.1 (MF2_of q2)) q3 q4
  unfold J_X10_command_140
  rw [if_neg g1, g2]
  by_cases k3 : ek E b = 3
  · have hm := em_lt hE (a := b) (by omega)
    rw [if_pos (show nI (encN E b) = 3 from tok_y hE (c := 3) (by omega))]
    by_cases k24 : ek E (b + 1) = 24
    · rw [isVB_y hE hs hb hm k24, Option.bind_some]
      dsimp only
      rw [if_neg (by decide), if_pos (Or.inl ⟨k3, k24⟩)]
      exact h163
    · rw [isVB_n hE hs hb hm k24, Option.bind_some]
      exact h150 (fun q => k24 q.2)
  · rw [if_neg (show ¬ nI (encN E b) = 3 from tok_n hE (c := 3) (by omega) (by omega))]
    exact h150 (fun q => k3 q.1)
end
