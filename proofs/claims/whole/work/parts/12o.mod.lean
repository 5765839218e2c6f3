section
variable {s : St} {E : LEnv} {T : Nat → List Nat} {a b p actor n sd : Nat} {l : List Nat}
theorem who_m {A : Ab} {bh bm : Nat} (hE : EOK E) (hok : AOK E A) (hs : ME s E) (hA : MA s A) (ha : s.1 94 16 = nI a) (hl : a ≤ em E) (hbh : (bh = 21 ∧ bm = 30) ∨ (bh = 6 ∧ bm = 6)) : FolP s (F_X10_someone (nI bm) s) (sWho E A a bh) := by
  have h24 := hE.2.1
  have h200 := hE.2.2.2.2.2.1
  obtain ⟨g1, g2, g3⟩ := tok_g hE hs ha hl
  have hi := item_m (actor := 0) hE hs hA.1 hok.1 ha hl (Or.inl hE.2.2.1) hE.1
  rw [nI_0] at hi
  unfold F_X10_someone sWho
  cases hr : sItem E A.1 0 a with
  | error e =>
    obtain ⟨s', q1, q2, q3, q4⟩ := hi.1 e hr
    rw [q1, Option.bind_some]
    exact FolP_er (if_pos rfl) (MF3_of q2) (MA_MF2 hA (MF2_of q2)) q3 q4
  | ok q =>
    obtain ⟨l, b⟩ := q
    obtain ⟨s1, q1, ⟨q2, q3, q4⟩, q5⟩ := hi.2 l b hr
    obtain ⟨o1, o2, o3, o4, o5⟩ := sItem_ok hE hok.1 hE.1 hr
    have hll := pig (eT E) l o4 o5
    have hs1 := ME_MF hs q2
    have hA1 := MA_MF2 hA (MF2_of q2)
    rw [q1, Option.bind_some]
    dsimp only
    rw [if_neg (show ¬ (1 : Int32) = 0 by decide), if_neg g1, g3, q5.1]
    apply FolP_of (s1 := s1) (MF3_of q2) q3
    have hfl : FolP s1 ((F_X10_fails 8 (s1.1 106 a) s1).bind fun q => if q.1 = 0 ∨ q.1 = 1 then some (q.1, q.2) else none) (A, .error (8, a)) := by
      obtain ⟨s', p1, p2, p3, p4⟩ := fails_m (s := s1) 8 (i := a) rfl
      exact FolP_er (if01 (P := True) p1 (Or.inl rfl)) (MF3_of p2) (MA_MF2 hA1 (MF2_of p2)) p3 p4
    match l, o3, o5, hll, q5 with
    | [x], _, o5, _, q5 =>
      have hx := o5 x (by simp)
      have hk4 := hE.2.2.2.1 x hx
      have e0 : s1.1 116 ((0 : Int32)).toNatClampNeg = nI x := q5.2 0 x rfl
      have ek96 := hs1.2.1 x hx
      rw [show [x].length = 1 from rfl, if_neg (show ¬ (1 : Int32) < nI 1 by decide), e0]
      dsimp only
      by_cases c0 : x = 0
      · rw [if_pos (by rw [c0]; rfl), if_pos (Or.inl c0)]
        exact hfl
      rw [if_neg (nI_ne0 (by omega) (by omega)), if_neg (grd (n := 24) (by omega) (by omega)), nI_clamp (by omega), ek96]
      have hJ : eK E x = 1 ∨ eK E x = 2 → FolP s1 (J_X10_someone_40 (nI bm) (nI x) s1) (if ek E b = bh then sCmds E x 300 A [x] (b + 1) else (A, .error (mis E b))) := by
        intro hper
        obtain ⟨w1, w2, w3⟩ := tok_g hE hs1 q4 o2
        have hc := enc_cases hE b
        unfold J_X10_someone_40
        rw [if_neg w1, w2]
        by_cases k : ek E b = bh
        · have hm := em_lt hE (a := b) (by omega)
          rw [if_pos (tok_y hE (c := bm) (by omega)), if_pos k, q4, nI_s]
          have hj := MJ_1 s1 (nI (b + 1))
          have m1 := MF_MJ hj
          have hp1 : (xup s1.1 94 16 (nI (b + 1)), s1.2).1 94 16 = nI (b + 1) := by dsimp only; rw [xup_eq, if_pos rfl]
          apply FolP_of (s1 := (xup s1.1 94 16 (nI (b + 1)), s1.2)) (MF3_of m1) (hj.2.2 17 (by omega))
          have := cmds_m hE hok (ME_MF hs1 m1) (MA_MF2 hA1 (MF2_of m1)) hper hx hp1 (by omega)
          rw [if_neg c0] at this
          exact FolP_01 this
        · rw [if_neg (tok_n hE (c := bm) (by omega) (by omega)), if_neg k]
          obtain ⟨s', p1, p2, p3, p4⟩ := wrong_m hE hs1 q4 o2
          exact FolP_er (if01 (P := True) p1 (Or.inl rfl)) (MF3_of p2) (MA_MF2 hA1 (MF2_of p2)) p3 p4
      by_cases c1 : eK E x = 1
      · rw [if_pos (show nI (eK E x) = 1 by rw [c1]; rfl), if_neg (by omega)]
        exact hJ (Or.inl c1)
      rw [if_neg (show ¬ nI (eK E x) = 1 from nI_ne (b := 1) c1 (by omega) (by omega))]
      by_cases c2 : eK E x = 2
      · rw [if_pos (show nI (eK E x) = 2 by rw [c2]; rfl), if_neg (by omega)]
        exact hJ (Or.inr c2)
      · rw [if_neg (show ¬ nI (eK E x) = 2 from nI_ne (b := 2) c2 (by omega) (by omega)), if_pos (by omega)]
        exact hfl
    | x :: y :: r, _, _, hll, _ =>
      have hn2 : (x :: y :: r).length ≥ 2 := by simp
      rw [if_pos (show (1 : Int32) < nI (x :: y :: r).length from nI_lt (a := 1) (by omega) (by omega))]
      exact hfl
theorem ord_m {A : Ab} (hE : EOK E) (hok : AOK E A) (hs : ME s E) (hA : MA s A) (ha : s.1 94 16 = nI a) (hl : a ≤ em E) : FolP s (F_X10_order s) (sOrd E A a) := by
  obtain ⟨g1, g2, g3⟩ := tok_g hE hs ha hl
  have hc := enc_cases hE a
  unfold F_X10_order sOrd
  rw [if_neg g1, g2]
  by_cases k7 : ek E a = 7
  · rw [if_pos (show nI (encN E a) = 7 from tok_y hE (c := 7) (by omega)), if_pos k7]
    exact FolP_01 (again_m hE hok hs hA ha k7)
  rw [if_neg (show ¬ nI (encN E a) = 7 from tok_n hE (c := 7) (by omega) (by omega)), if_neg k7]
  by_cases k5 : ek E a = 5
  · have hm := em_lt hE (a := a) (by omega)
    rw [if_pos (show nI (encN E a) = 5 from tok_y hE (c := 5) (by omega)), if_neg (by omega), if_pos k5, ha, nI_s]
    have hj := MJ_1 s (nI (a + 1))
    have m1 := MF_MJ hj
    have hp1 : (xup s.1 94 16 (nI (a + 1)), s.2).1 94 16 = nI (a + 1) := by dsimp only; rw [xup_eq, if_pos rfl]
    apply FolP_of (s1 := (xup s.1 94 16 (nI (a + 1)), s.2)) (MF3_of m1) (hj.2.2 17 (by omega))
    exact FolP_01 (who_m (bm := 6) hE hok (ME_MF hs m1) (MA_MF2 hA (MF2_of m1)) hp1 (by omega) (by omega))
  rw [if_neg (show ¬ nI (encN E a) = 5 from tok_n hE (c := 5) (by omega) (by omega))]
  have hso : F_X10_isSort (nI (encN E a)) 1 s = some (if ek E a = 24 then 1 else 0, s) := isSort_k (k := 1) hE hs (by omega)
  by_cases k24 : ek E a = 24
  · rw [if_pos k24] at hso ⊢
    rw [hso, Option.bind_some]
    dsimp only
    rw [if_neg (by decide)]
    have := cmds_m (actor := 0) hE hok hs hA (Or.inl hE.2.2.1) hE.1 ha hl
    exact FolP_01 this
  · rw [if_neg k24] at hso ⊢
    rw [hso, Option.bind_some]
    dsimp only
    rw [if_pos rfl, if_neg k5]
    exact FolP_01 (who_m (bm := 30) hE hok hs hA ha hl (by omega))
theorem skip19 (hE : EOK E) : ∀ f a (s : St), a ≤ em E → em E < f + a → ME s E → s.1 94 16 = nI a → ∃ s', L_X10_line_19 f 1 s = some s' ∧ MJ s s' ∧ s'.1 94 16 = nI (sSkip E f a) := by
  intro f
  induction f with
  | zero => intro a s h1 h2; omega
  | succ f ih =>
    intro a s h1 h2 hs ha
    unfold L_X10_line_19 sSkip
    rw [if_neg (by decide)]
    by_cases k : ek E a = 22 ∨ ek E a = 4
    · have hm := em_lt hE (a := a) (by omega)
      rw [bt_y hE hs ha h1 k, Option.bind_some, if_pos k]
      dsimp only
      rw [if_neg (by decide), ha, nI_s]
      have hj := MJ_1 s (nI (a + 1))
      obtain ⟨s', q1, q2, q3⟩ := ih (a + 1) (xup s.1 94 16 (nI (a + 1)), s.2) (by omega) (by omega) (ME_MF hs (MF_MJ hj)) (by dsimp only; rw [xup_eq, if_pos rfl])
      exact ⟨s', q1, MJ_trans hj q2, q3⟩
    · rw [bt_n hE hs ha h1 k, Option.bind_some, if_neg k]
      exact ⟨s, if_pos rfl, ⟨rfl, fun _ _ => rfl, fun _ _ => rfl⟩, ha⟩
theorem skip58 (hE : EOK E) : ∀ f a (s : St), a ≤ em E → em E < f + a → ME s E → s.1 94 16 = nI a → ∃ s', L_X10_line_58 f 1 s = some s' ∧ MJ s s' ∧ s'.1 94 16 = nI (sSkip E f a) := by
  intro f
  induction f with
  | zero => intro a s h1 h2; omega
  | succ f ih =>
    intro a s h1 h2 hs ha
    unfold L_X10_line_58 sSkip
    rw [if_neg (by decide)]
    by_cases k : ek E a = 22 ∨ ek E a = 4
    · have hm := em_lt hE (a := a) (by omega)
      rw [bt_y hE hs ha h1 k, Option.bind_some, if_pos k]
      dsimp only
      rw [if_neg (by decide), ha, nI_s]
      have hj := MJ_1 s (nI (a + 1))
      obtain ⟨s', q1, q2, q3⟩ := ih (a + 1) (xup s.1 94 16 (nI (a + 1)), s.2) (by omega) (by omega) (ME_MF hs (MF_MJ hj)) (by dsimp only; rw [xup_eq, if_pos rfl])
      exact ⟨s', q1, MJ_trans hj q2, q3⟩
    · rw [bt_n hE hs ha h1 k, Option.bind_some, if_neg k]
      exact ⟨s, if_pos rfl, ⟨rfl, fun _ _ => rfl, fun _ _ => rfl⟩, ha⟩
theorem line31_0 (f : Nat) (s : St) : L_X10_line_31 (f + 1) 0 s = some s := by
  unfold L_X10_line_31
  rw [if_pos rfl]
theorem line58_0 (s : St) : L_X10_line_58 300 0 s = some s := by
  unfold L_X10_line_58
  rw [if_pos rfl]
/-- the model reads a line as is asked -/
theorem line_m (hE : EOK E) : ∀ f (A : Ab) a (s : St), em E + 2 ≤ f + a → a ≤ em E → ME s E → MA s A → AOK E A → s.1 94 16 = nI (sSkip E 300 a) →
    ∃ s', L_X10_line_31 f 1 s = some s' ∧ MF3 s s' ∧ MA s' (sLine E f A a).1 ∧ ((sLine E f A a).2 = none → s'.1 94 17 = s.1 94 17) ∧ ∀ e, (sLine E f A a).2 = some e → s'.1 94 17 = nI e.1 ∧ s'.1 94 18 = s.1 106 e.2 := by
  have h200 := hE.2.2.2.2.2.1
  intro f
  induction f with
  | zero => intro A a s h1 h2; omega
  | succ f ih =>
    intro A a s h1 h2 hs hA hok ha
    obtain ⟨k1, k2, k3⟩ := sSkip_le hE 300 a h2
    obtain ⟨g1, g2, g3⟩ := tok_g hE hs ha k2
    have hc := enc_cases hE (sSkip E 300 a)
    unfold L_X10_line_31 sLine
    rw [if_neg (by decide), if_neg g1, g2]
    by_cases k28 : ek E (sSkip E 300 a) = 28
    · rw [if_pos (show nI (encN E (sSkip E 300 a)) = 33 from tok_y hE (c := 33) (by omega)), if_pos k28]
      exact ⟨s, rfl, MF3_refl s, hA, fun _ => rfl, fun e he => (by cases he)⟩
    rw [if_neg (show ¬ nI (encN E (sSkip E 300 a)) = 33 from tok_n hE (c := 33) (by omega) (by omega)), if_neg k28]
    obtain ⟨x, s1, q1, q2, q3, q4, q5⟩ := ord_m hE hok hs hA ha k2
    obtain ⟨o1, o2⟩ := sOrd_ok hE k28 hok
    rw [q1, Option.bind_some]
    cases hr : (sOrd E A (sSkip E 300 a)).2 with
    | error e =>
      have e1 : sOrd E A (sSkip E 300 a) = ((sOrd E A (sSkip E 300 a)).1, .error e) := by rw [← hr]
      obtain ⟨w1, w2, w3⟩ := q4 e hr
      obtain ⟨f', rfl⟩ : ∃ f', f = f' + 1 := ⟨f - 1, by omega⟩
      rw [e1, w1]
      dsimp only
      rw [if_pos rfl, line58_0, Option.bind_some, line31_0]
      exact ⟨s1, rfl, q2, q3, fun h => (by cases h), fun e' he => by cases he; exact ⟨w2, w3⟩⟩
    | ok b =>
      have e1 : sOrd E A (sSkip E 300 a) = ((sOrd E A (sSkip E 300 a)).1, .ok b) := by rw [← hr]
      obtain ⟨w1, w2, w3⟩ := q5 b hr
      obtain ⟨p1, p2, p3⟩ := o2 b hr
      have hs1 := ME_MF3 hs q2
      obtain ⟨t1, t2, t3⟩ := tok_g hE hs1 w3 p2
      have hcb := enc_cases hE b
      obtain ⟨s2, v1, v2, v3⟩ := skip58 hE 300 b s1 p2 (by omega) hs1 w3
      have m2 := MF_MJ v2
      obtain ⟨s3, u1, u2, u3, u4, u5⟩ := ih (sOrd E A (sSkip E 300 a)).1 b s2 (by omega) p2 (ME_MF hs1 m2) (MA_MF2 q3 (MF2_of m2)) o1 v3
      have hgo : ∃ s', (L_X10_line_58 300 1 s1).bind (fun q => L_X10_line_31 f 1 q) = some s' ∧ MF3 s s' ∧ MA s' (sLine E f (sOrd E A (sSkip E 300 a)).1 b).1 ∧ ((sLine E f (sOrd E A (sSkip E 300 a)).1 b).2 = none → s'.1 94 17 = s.1 94 17) ∧ ∀ e, (sLine E f (sOrd E A (sSkip E 300 a)).1 b).2 = some e → s'.1 94 17 = nI e.1 ∧ s'.1 94 18 = s.1 106 e.2 := by
        have m3 := MF3_trans q2 (MF3_of m2)
        refine ⟨s3, by rw [v1, Option.bind_some]; exact u1, MF3_trans m3 u2, u3, fun h => by rw [u4 h, v2.2.2 17 (by omega), w2], fun e he => ⟨(u5 e he).1, by rw [(u5 e he).2, m3.2.1 106 (by omega) (by omega)]⟩⟩
      rw [e1, w1]
      dsimp only
      rw [if_neg (show ¬ (1 : Int32) = 0 by decide), if_neg t1, t2]
      by_cases b28 : ek E b = 28
      · rw [if_pos (show nI (encN E b) = 33 from tok_y hE (c := 33) (by omega))]
        exact hgo
      · rw [if_neg (show ¬ nI (encN E b) = 33 from tok_n hE (c := 33) (by omega) (by omega)), bt_y hE hs1 w3 p2 (by omega), Option.bind_some]
        dsimp only
        rw [if_neg (show ¬ (1 : Int32) = 0 by decide)]
        exact hgo
end
