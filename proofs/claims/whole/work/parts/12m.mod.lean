section
variable {s : St} {E : LEnv} {T : Nat → List Nat} {a b p actor n sd : Nat} {l : List Nat}
theorem sCmds_eq (f : Nat) (A : Ab) (ad : List Nat) (a : Nat) : sCmds E actor (f + 1) A ad a = match sCmd1 E actor A ad a with
    | (A', .error e) => (A', .error e)
    | (A', .ok b) => if ek E b = 3 ∧ ek E (b + 1) = 24 then sCmds E actor f A' [] (b + 1) else (A', .ok b) := by
  conv => lhs; unfold sCmds
  unfold sCmd1
  cases hc : sCmd E A.1 A.2.1.length actor a with
  | error e => rfl
  | ok q =>
    obtain ⟨c, b⟩ := q
    dsimp only
    by_cases k1 : ek E b = 3 ∧ ek E (b + 1) = 24
    · rw [if_pos k1, if_pos (Or.inl k1)]; dsimp only; rw [if_pos k1]
    rw [if_neg k1]
    by_cases k2 : ek E b = 28 ∨ ek E b = 22 ∨ ek E b = 4
    · rw [if_pos k2, if_pos (Or.inr k2)]; dsimp only; rw [if_neg k1]
    · rw [if_neg k2, if_neg (fun q => q.elim k1 k2)]
theorem sCmd1_ok {A : Ab} {ad : List Nat} (hE : EOK E) (hactor : actor < eT E) (hA : AOK E A) (had : ad.Nodup) (hlt : ∀ x ∈ ad, x < eT E) : AOK E (sCmd1 E actor A ad a).1 ∧ ∀ b, (sCmd1 E actor A ad a).2 = .ok b → a < b ∧ b ≤ em E := by
  unfold sCmd1
  cases hc : sCmd E A.1 A.2.1.length actor a with
  | error e => exact ⟨hA, fun b h => by cases h⟩
  | ok q =>
    obtain ⟨c, b⟩ := q
    obtain ⟨q1, q2, q3, q4, q5, q6⟩ := sCmd_ok hE hA.1 hactor hc
    have hT : TOK E (learn E (learn E (learn E A.1 ad) c.2.2.1) c.2.2.2) := TOK_learn hE (TOK_learn hE (TOK_learn hE hA.1 had hlt) q5.1 q5.2) q6.1 q6.2
    have hK := AOK_keep (r := (actor, c)) hA hT ⟨hactor, q5, q6⟩
    dsimp only
    by_cases k : (ek E b = 3 ∧ ek E (b + 1) = 24) ∨ (ek E b = 28 ∨ ek E b = 22 ∨ ek E b = 4)
    · rw [if_pos k]; exact ⟨hK, fun b' h => by cases h; exact ⟨q3, q4⟩⟩
    · rw [if_neg k]; exact ⟨hA, fun b h => by cases h⟩
theorem cmds5_0 (f : Nat) (l1 : Int32) (s : St) : L_X10_commands_5 (f + 1) l1 0 s = some (0, s) := by
  unfold L_X10_commands_5
  rw [if_pos rfl]
theorem cmds5 (hE : EOK E) (hac : eK E actor = 1 ∨ eK E actor = 2) (hal : actor < eT E) : ∀ f b (A : Ab) (s : St), b ≤ em E → em E < f + b → AOK E A → ME s E → MA s A → s.1 94 16 = nI b → FolP s (L_X10_commands_5 (f + 1) (nI actor) 1 s) (if ek E b = 3 ∧ ek E (b + 1) = 24 then sCmds E actor f A [] (b + 1) else (A, .ok b)) := by
  intro f
  induction f with
  | zero => intro b A s h1 h2; omega
  | succ f ih =>
    intro b A s h1 h2 hok hs hA hb
    obtain ⟨g1, g2, g3⟩ := tok_g hE hs hb h1
    have hc := enc_cases hE b
    unfold L_X10_commands_5
    rw [if_neg (by decide), if_neg g1, g2]
    by_cases k3 : ek E b = 3
    · have hm := em_lt hE (a := b) (by omega)
      rw [if_pos (show nI (encN E b) = 3 from tok_y hE (c := 3) (by omega))]
      by_cases k24 : ek E (b + 1) = 24
      · rw [isVB_y hE hs hb hm k24, Option.bind_some]
        dsimp only
        rw [if_neg (by decide), if_pos ⟨k3, k24⟩, hb, nI_s]
        have hj := MJ_1 s (nI (b + 1))
        have m1 := MF_MJ hj
        have hp1 : (xup s.1 94 16 (nI (b + 1)), s.2).1 94 16 = nI (b + 1) := by dsimp only; rw [xup_eq, if_pos rfl]
        apply FolP_of (s1 := (xup s.1 94 16 (nI (b + 1)), s.2)) (MF3_of m1) (hj.2.2 17 (by omega))
        have hcm := cmd_m (l2 := 0) hE hok (ME_MF hs m1) (MA_MF2 hA (MF2_of m1)) hac hal hp1 (by omega)
        have e0 : adOf actor 0 = [] := by unfold adOf; by_cases q : actor = 0 <;> simp [q]
        rw [e0] at hcm
        obtain ⟨x, s', q1, q2, q3, q4, q5⟩ := hcm
        obtain ⟨o1, o2⟩ := sCmd1_ok (a := b + 1) (ad := []) hE hal hok List.nodup_nil (by simp)
        rw [q1, Option.bind_some, sCmds_eq]
        cases hr : (sCmd1 E actor A [] (b + 1)).2 with
        | error e =>
          have e1 : sCmd1 E actor A [] (b + 1) = ((sCmd1 E actor A [] (b + 1)).1, .error e) := by rw [← hr]
          obtain ⟨w1, w2, w3⟩ := q4 e hr
          rw [e1, w1]
          dsimp only
          rw [cmds5_0]
          exact FolP_er rfl q2 q3 w2 w3
        | ok c =>
          have e1 : sCmd1 E actor A [] (b + 1) = ((sCmd1 E actor A [] (b + 1)).1, .ok c) := by rw [← hr]
          obtain ⟨w1, w2, w3⟩ := q5 c hr
          have := o2 c hr
          rw [e1, w1]
          dsimp only
          apply FolP_of (s1 := s') q2 w2
          exact ih c _ s' (by omega) (by omega) o1 (ME_MF3 (ME_MF hs m1) q2) q3 w3
      · rw [isVB_n hE hs hb hm k24, Option.bind_some, if_neg (c := ek E b = 3 ∧ ek E (b + 1) = 24) (fun q => k24 q.2)]
        exact FolP_ok (if_pos rfl) (MF3_refl s) hA rfl hb
    · rw [if_neg (show ¬ nI (encN E b) = 3 from tok_n hE (c := 3) (by omega) (by omega)), if_neg (fun q => k3 q.1)]
      exact FolP_ok rfl (MF3_refl s) hA rfl hb
theorem cmds_m {A : Ab} (hE : EOK E) (hok : AOK E A) (hs : ME s E) (hA : MA s A) (hac : eK E actor = 1 ∨ eK E actor = 2) (hal : actor < eT E) (ha : s.1 94 16 = nI a) (hl : a ≤ em E) :
    FolP s (F_X10_commands (nI actor) s) (sCmds E actor 300 A (if actor = 0 then [] else [actor]) a) := by
  have h200 := hE.2.2.2.2.2.1
  have hcm := cmd_m (l2 := 1) hE hok hs hA hac hal ha hl
  have e0 : adOf actor 1 = if actor = 0 then [] else [actor] := by unfold adOf; by_cases q : actor = 0 <;> simp [q]
  rw [e0] at hcm
  obtain ⟨x, s', q1, q2, q3, q4, q5⟩ := hcm
  obtain ⟨o1, o2⟩ := sCmd1_ok (a := a) (ad := if actor = 0 then [] else [actor]) hE hal hok (by by_cases q : actor = 0 <;> simp [q]) (by by_cases q : actor = 0 <;> simp [q]; omega)
  unfold F_X10_commands
  rw [q1, Option.bind_some, sCmds_eq 299]
  cases hr : (sCmd1 E actor A (if actor = 0 then [] else [actor]) a).2 with
  | error e =>
    have e1 : sCmd1 E actor A (if actor = 0 then [] else [actor]) a = ((sCmd1 E actor A (if actor = 0 then [] else [actor]) a).1, .error e) := by rw [← hr]
    obtain ⟨w1, w2, w3⟩ := q4 e hr
    rw [e1, w1]
    dsimp only
    apply FolP_01
    rw [cmds5_0 299]
    exact FolP_er rfl q2 q3 w2 w3
  | ok c =>
    have e1 : sCmd1 E actor A (if actor = 0 then [] else [actor]) a = ((sCmd1 E actor A (if actor = 0 then [] else [actor]) a).1, .ok c) := by rw [← hr]
    obtain ⟨w1, w2, w3⟩ := q5 c hr
    have := o2 c hr
    rw [e1, w1]
    dsimp only
    apply FolP_01
    apply FolP_of (s1 := s') q2 w2
    exact cmds5 hE hac hal 299 c _ s' (by omega) (by omega) o1 (ME_MF3 hs q2) q3 w3
end
