section
variable {s : St} {E : LEnv} {T : Nat → List Nat} {a b p actor n sd : Nat} {l : List Nat}
def sC2 (E : LEnv) (A : Ab) (actor : Nat) (ad : List Nat) (v a : Nat) : Ab × Except (Nat × Nat) Nat := if eF E v = 0 then endR E A actor ad (v, -4, [], []) a else match sList E A.1 actor a with
  | .error e => (A, .error e)
  | .ok (l1, b) => if eF E v = 2 ∧ ek E b ≠ 25 then (A, .error (mis E b)) else if eF E v = 1 then endR E A actor ad (v, -4, l1, []) b else if ek E b = 25 then (match sList E A.1 actor (b + 1) with
      | .error e => (A, .error e)
      | .ok (x, c) => endR E A actor ad (v, nI (ew E b), l1, x) c) else endR E A actor ad (v, -4, l1, []) b
theorem cmdR_k {A : Ab} {v : Nat} {l2 : Int32} (hE : EOK E) (hok : AOK E A) (hs : ME s E) (hB : MB s A A.1 (actor, v, -4, [], [])) (hn : A.2.1.length < 10) (hac : eK E actor = 1 ∨ eK E actor = 2) (hal : actor < eT E) (hb : s.1 94 16 = nI a) (hl : a ≤ em E) (hf : eF E v < 4) :
    FolP s (cmdR (nI actor) l2 (nI (eF E v)) s) (sC2 E A actor (adOf actor l2) v a) := by
  have h24 := hE.2.1
  unfold cmdR sC2
  by_cases f0 : eF E v = 0
  · rw [if_pos (show nI (eF E v) ≤ 0 by rw [f0]; decide), if_pos f0]
    exact j140 hE hs hB hn hok.1 ⟨hal, by simp, by simp⟩ hb hl
  rw [if_neg (nI_nle (by omega) (by omega)), if_neg f0]
  have hL := list_m hE hs hB.1.1 hok.1 hb hl hac hal
  cases hr : sList E A.1 actor a with
  | error e =>
    obtain ⟨s', q1, q2, q3, q4⟩ := hL.1 e hr
    rw [q1, Option.bind_some]
    exact FolP_er (if_pos rfl) (MF3_of2 q2) (MA_MF2 hB.1 q2) q3 q4
  | ok q =>
    obtain ⟨l1, b⟩ := q
    obtain ⟨s2, q1, ⟨q2, q3, q4⟩, q5⟩ := hL.2 l1 b hr
    obtain ⟨o1, o2, o3, o4⟩ := sList_ok hE hok.1 hal hr
    have hxl := pig (eT E) l1 o3 o4
    rw [q1, Option.bind_some]
    dsimp only
    rw [if_neg (by decide)]
    obtain ⟨s3, w1, w2, w3, w4⟩ := keepsB (sd := 0) hE hok (MB_MF2 hB q2) ⟨hal, by simp, by simp⟩ hn (by omega) q5 (by omega)
    rw [nI_0] at w1
    rw [w1, Option.bind_some]
    rw [if_pos rfl, if_pos rfl] at w4
    have m3 := MF3_trans (MF3_of2 q2) w2
    have hs3 := ME_MF3 hs m3
    have hb3 : s3.1 94 16 = nI b := by rw [w3, q4]
    obtain ⟨g1, g2, g3⟩ := tok_g hE hs3 hb3 o2
    apply FolP_of (s1 := s3) m3 (by rw [w3, q3])
    rw [if_neg g1, g2, show (2 : Int32) = nI 2 from rfl, isSort_k hE hs3 (by omega), Option.bind_some]
    dsimp only
    have e25 : (if ek E b = 23 + 2 then (1 : Int32) else 0) = if ek E b = 25 then 1 else 0 := rfl
    rw [e25]
    by_cases f2 : eF E v = 2
    · rw [if_pos (show nI (eF E v) = nI 2 by rw [f2])]
      by_cases k : ek E b = 25
      · rw [if_neg (show ¬ (if ek E b = 25 then (1 : Int32) else 0) = 0 by rw [if_pos k]; decide), if_neg (show ¬ (eF E v = 2 ∧ ek E b ≠ 25) from fun q => q.2 k)]
        exact j108 (l2 := l2) hE hok hs3 w4 hn hac hal ⟨o3, o4⟩ hb3 o2 hf f0 (fun _ => k) rfl
      · rw [if_pos (show (if ek E b = 25 then (1 : Int32) else 0) = 0 by rw [if_neg k]), if_pos ⟨f2, k⟩]
        obtain ⟨s', p1, p2, p3, p4⟩ := wrong_m hE hs3 hb3 o2
        exact FolP_er (if01 (P := True) p1 (Or.inl rfl)) (MF3_of p2) (MA_MF2 w4.1 (MF2_of p2)) p3 p4
    · rw [if_neg (nI_ne f2 (by omega) (by omega)), if_neg (show ¬ (eF E v = 2 ∧ ek E b ≠ 25) from fun q => f2 q.1)]
      exact j108 (l2 := l2) hE hok hs3 w4 hn hac hal ⟨o3, o4⟩ hb3 o2 hf f0 (fun q => absurd q f2) rfl
theorem sCmd1_eq (A : Ab) (ad : List Nat) (h : ek E a = 24) (hn : A.2.1.length ≠ 10) (hf : eF E (ew E a) < 4) : sCmd1 E actor A ad a = sC2 E A actor ad (ew E a) (a + 1) := by
  unfold sCmd1 sCmd sC2
  rw [if_pos h, if_neg hn]
  by_cases f0 : eF E (ew E a) = 0
  · rw [if_pos f0, if_pos f0]; rfl
  rw [if_neg f0, if_neg f0]
  cases hr : sList E A.1 actor (a + 1) with
  | error e => rfl
  | ok q =>
    obtain ⟨l1, b⟩ := q
    dsimp only
    by_cases f1 : eF E (ew E a) = 1
    · rw [if_pos f1, if_neg (by omega), if_pos f1]; rfl
    rw [if_neg f1]
    by_cases k : ek E b = 25
    · rw [if_pos k, if_neg (fun q => q.2 k), if_neg f1, if_pos k]
      cases hr2 : sList E A.1 actor (b + 1) with
      | error e => rfl
      | ok q => rfl
    · rw [if_neg k]
      by_cases f3 : eF E (ew E a) = 3
      · rw [if_pos f3, if_neg (by omega), if_neg f1, if_neg k]; rfl
      · rw [if_neg f3, if_pos (by omega)]
/-- a command of the model follows what is asked -/
theorem cmd_m {A : Ab} {l2 : Int32} (hE : EOK E) (hok : AOK E A) (hs : ME s E) (hA : MA s A) (hac : eK E actor = 1 ∨ eK E actor = 2) (hal : actor < eT E) (ha : s.1 94 16 = nI a) (hl : a ≤ em E) :
    FolP s (F_X10_command (nI actor) l2 s) (sCmd1 E actor A (adOf actor l2) a) := by
  obtain ⟨g1, g2, g3⟩ := tok_g hE hs ha hl
  have hc := enc_cases hE a
  have h10 := hA.2.2.1
  rw [eq_cmd, if_neg g1, g2, show (1 : Int32) = nI 1 from rfl, isSort_k hE hs (by omega), Option.bind_some]
  dsimp only
  by_cases k : ek E a = 24
  · rw [if_pos (show ek E a = 23 + 1 by omega), if_neg (by decide), hA.2.1]
    by_cases k10 : A.2.1.length = 10
    · rw [if_pos (show nI A.2.1.length = 10 by rw [k10]; rfl), if_neg g1, g3]
      have e : sCmd1 E actor A (adOf actor l2) a = (A, .error (9, a)) := by
        unfold sCmd1 sCmd; rw [if_pos k, if_pos k10]
      rw [e]
      obtain ⟨s', p1, p2, p3, p4⟩ := fails_m (s := s) 9 (i := a) rfl
      exact FolP_er (if01 (P := True) p1 (Or.inl rfl)) (MF3_of p2) (MA_MF2 hA (MF2_of p2)) p3 p4
    · have hm := em_lt hE (a := a) (by omega)
      have hf : eF E (ew E a) < 4 := hE.2.2.2.2.2.2.2.2.2.2 _ (by omega)
      have hn : A.2.1.length < 10 := by omega
      rw [sCmd1_eq A _ k k10 hf, if_neg (show ¬ nI A.2.1.length = 10 from nI_ne (b := 10) k10 (by omega) (by omega)), if_neg g1, g2, show encN E a = 100 + ew E a by omega, show (100 : Int32) = nI 100 from rfl, pk_sub (by omega), show 100 + ew E a - 100 = ew E a by omega, if_neg (grd (n := 60) (by omega) (by omega)), nI_clamp (by omega), hs.2.2.2.2.1 _ (by omega), ha]
      have e24 : s.1 94 24 = nI A.2.1.length := hA.2.1
      rw [gset_k (m := A.2.1.length) (by rw [xup_j (by omega)]; exact e24) hn (by omega), gset_k (m := A.2.1.length) (by rw [xup_ne (by omega), xup_j (by omega)]; exact e24) hn (by omega), gset_k (m := A.2.1.length) (by rw [xup_ne (by omega), xup_ne (by omega), xup_j (by omega)]; exact e24) hn (by omega),
        gset_k (m := 2 * A.2.1.length) (by rw [xup_ne (by omega), xup_ne (by omega), xup_ne (by omega), xup_j (by omega), e24, nI2]) (by omega) (by omega), gset_k (m := 2 * A.2.1.length + 1) (by rw [xup_ne (by omega), xup_ne (by omega), xup_ne (by omega), xup_ne (by omega), xup_j (by omega), e24, nI2, show nI 1 = (1 : Int32) from rfl, nI_s]) (by omega) (by omega)]
      obtain ⟨I, hI⟩ : ∃ I : Nat → Nat → Int32, I = xup (xup (xup (xup (xup (xup s.1 94 16 (nI a + nI 1)) 107 A.2.1.length (nI actor)) 108 A.2.1.length (nI (ew E a))) 109 A.2.1.length (-4)) 111 (2 * A.2.1.length) 0) 111 (2 * A.2.1.length + 1) 0 := ⟨_, rfl⟩
      rw [← hI]
      obtain ⟨d1, d2, d3⟩ := draft_k hE hok hA hn hI
      rw [nI_add] at d2
      apply FolP_of (s1 := (I, s.2)) (MF3_MD d1) (d1.2.2.1 17 (by omega))
      exact cmdR_k hE hok (ME_MF3 hs (MF3_MD d1)) d3 hn hac hal d2 (by omega) hf
  · rw [if_neg (show ¬ ek E a = 23 + 1 by omega), if_pos (by decide)]
    have e : sCmd1 E actor A (adOf actor l2) a = (A, .error (mis E a)) := by
      unfold sCmd1 sCmd; rw [if_neg k]
    rw [e]
    obtain ⟨s', p1, p2, p3, p4⟩ := wrong_m hE hs ha hl
    exact FolP_er (if01 (P := True) p1 (Or.inl rfl)) (MF3_of p2) (MA_MF2 hA (MF2_of p2)) p3 p4
end
