section
variable {s : St} {E : LEnv} {T : Nat → List Nat} {a b p actor n sd : Nat} {l : List Nat}
/-- cells of the draft alone -/
def MD (s s' : St) (n : Nat) : Prop := s'.2 = s.2 ∧ (∀ c, c ≠ 94 → ¬ (107 ≤ c ∧ c ≤ 111) → s'.1 c = s.1 c) ∧ (∀ j, j ≠ 16 → s'.1 94 j = s.1 94 j) ∧ (∀ c i, 107 ≤ c → c ≤ 109 → i ≠ n → s'.1 c i = s.1 c i) ∧ (∀ j, j ≠ 2 * n → j ≠ 2 * n + 1 → s'.1 111 j = s.1 111 j) ∧ (∀ j, j < 48 * n → s'.1 110 j = s.1 110 j)
theorem MF3_MD {s s' : St} {n : Nat} (h : MD s s' n) : MF3 s s' := ⟨h.1, fun c x y => h.2.1 c x (by omega), fun j x => h.2.2.1 j (by omega)⟩
theorem MA_MD {s s' : St} {A : Ab} (hE : EOK E) (hok : AOK E A) (h : MA s A) (m : MD s s' A.2.1.length) : MA s' A := by
  obtain ⟨h1, h2, h3, h4, h5, h6⟩ := h
  obtain ⟨m1, m2, m3, m4, m5, m6⟩ := m
  refine ⟨?_, by rw [m3 24 (by omega)]; exact h2, h3, by rw [m3 25 (by omega)]; exact h4, fun i r hr => ?_, MLa_congr h6 (m2 _ (by omega) (by omega)) (m2 _ (by omega) (by omega)) (fun j x y => m3 j (by omega))⟩
  · unfold MT at h1 ⊢
    rw [m2 114 (by omega) (by omega), m2 115 (by omega) (by omega)]
    exact h1
  · have hi := (List.getElem?_eq_some_iff.mp hr).1
    have hl := ROK_len hE (hok.2.1 r (List.mem_of_getElem? hr))
    exact MOr_fr (h5 i r hr) hl (m4 107 i (by omega) (by omega) (by omega)) (m4 108 i (by omega) (by omega) (by omega)) (m4 109 i (by omega) (by omega) (by omega)) (m5 _ (by omega) (by omega)) (m5 _ (by omega) (by omega)) (fun j x y => m6 j (by omega))
theorem keepsB {A : Ab} {r : Ord} (hE : EOK E) (hok : AOK E A) (hB : MB s A A.1 r) (hr : ROK E r) (hn : A.2.1.length < 10) (hsd : sd < 2) (hl : ML (s.1 117) (s.1 94 36) l) (hlen : l.length ≤ 24) :
    ∃ s', F_X10_keeps (nI sd) s = some s' ∧ MF3 s s' ∧ s'.1 94 = s.1 94 ∧ MB s' A A.1 (r.1, r.2.1, r.2.2.1, if sd = 0 then l else r.2.2.2.1, if sd = 0 then r.2.2.2.2 else l) := by
  obtain ⟨s', q1, q2, q3, q4, q5, q6⟩ := keeps_k hn hsd hB.1.2.1 hl hlen
  have md : MD s s' A.2.1.length := ⟨q2, fun c x y => q3 c (by omega) (by omega), fun j x => by rw [q3 94 (by omega) (by omega)], fun c i x y z => by rw [q3 c (by omega) (by omega)], fun j x y => q4 j (by omega), fun j x => q5 j (by omega)⟩
  have hln := ROK_len hE hr
  refine ⟨s', q1, MF3_MD md, q3 94 (by omega) (by omega), MA_MD hE hok hB.1 md, ?_⟩
  obtain ⟨h7, h8, h9, h10, h11⟩ := hB.2
  refine ⟨by rw [q3 107 (by omega) (by omega)]; exact h7, by rw [q3 108 (by omega) (by omega)]; exact h8, by rw [q3 109 (by omega) (by omega)]; exact h9, ?_, ?_⟩
  · by_cases e : sd = 0
    · dsimp only; rw [if_pos e]; subst e; exact q6
    · dsimp only; rw [if_neg e]
      exact ML_f h10 (q4 _ (by omega)) (fun k hk => q5 _ (by omega)) hln.1
  · by_cases e : sd = 0
    · dsimp only; rw [if_pos e]
      exact ML_f h11 (q4 _ (by omega)) (fun k hk => q5 _ (by omega)) hln.2
    · have : sd = 1 := by omega
      dsimp only; rw [if_neg e]; subst this; exact q6
/-- behind the verb -/
def cmdR (a0 a1 f : Int32) (s : St) : Option (Int32 × St) := if f ≤ (0 : Int32) then (J_X10_command_140 a0 a1 s) else ((F_X10_list a0 s).bind fun q47 => if q47.1 = (0 : Int32) then (some ((0 : Int32), q47.2)) else ((F_X10_keeps (0 : Int32) q47.2).bind fun q49 => if (q49.1 94 16) < 0 ∨ 201 ≤ ((q49.1 94 16)).toNatClampNeg then none else (F_X10_isSort (q49.1 105 ((q49.1 94 16)).toNatClampNeg) (2 : Int32) q49).bind fun q51 => if f = (2 : Int32) then (if q51.1 = (0 : Int32) then ((F_X10_wrong q51.2).bind fun q54 => if q54.1 = 0 ∨ q54.1 = 1 then some (q54.1, q54.2) else none) else (J_X10_command_108 a0 a1 f q51.1 q51.2)) else (J_X10_command_108 a0 a1 f q51.1 q51.2)))
theorem eq_cmd (a0 a1 : Int32) (s : St) : F_X10_command a0 a1 s = if (s.1 94 16) < 0 ∨ 201 ≤ ((s.1 94 16)).toNatClampNeg then none else (F_X10_isSort (s.1 105 ((s.1 94 16)).toNatClampNeg) (1 : Int32) s).bind fun q2 => if q2.1 = (0 : Int32) then ((F_X10_wrong q2.2).bind fun q4 => if q4.1 = 0 ∨ q4.1 = 1 then some (q4.1, q4.2) else none) else (if (q2.2.1 94 24) = (10 : Int32) then (if (q2.2.1 94 16) < 0 ∨ 201 ≤ ((q2.2.1 94 16)).toNatClampNeg then none else (F_X10_fails (9 : Int32) (q2.2.1 106 ((q2.2.1 94 16)).toNatClampNeg) q2.2).bind fun q7 => if q7.1 = 0 ∨ q7.1 = 1 then some (q7.1, q7.2) else none) else (if (q2.2.1 94 16) < 0 ∨ 201 ≤ ((q2.2.1 94 16)).toNatClampNeg then none else if ((q2.2.1 105 ((q2.2.1 94 16)).toNatClampNeg) - (100 : Int32)) < 0 ∨ 60 ≤ (((q2.2.1 105 ((q2.2.1 94 16)).toNatClampNeg) - (100 : Int32))).toNatClampNeg then none else
    gset (fun x => x) 107 10 a0 (xup q2.2.1 94 16 ((q2.2.1 94 16) + (1 : Int32))) fun I => gset (fun x => x) 108 10 ((q2.2.1 105 ((q2.2.1 94 16)).toNatClampNeg) - (100 : Int32)) I fun I => gset (fun x => x) 109 10 (-4) I fun I => gset (fun x => (2 : Int32) * x) 111 20 0 I fun I => gset (fun x => (2 : Int32) * x + (1 : Int32)) 111 20 0 I fun I => cmdR a0 a1 (q2.2.1 101 (((q2.2.1 105 ((q2.2.1 94 16)).toNatClampNeg) - (100 : Int32))).toNatClampNeg) (I, q2.2.2))) := rfl
/-- the draft begun -/
theorem draft_k {A : Ab} {v : Nat} (hE : EOK E) (hok : AOK E A) (hA : MA s A) (hn : A.2.1.length < 10) {x : Int32} {I : Nat → Nat → Int32} (hI : I = xup (xup (xup (xup (xup (xup s.1 94 16 x) 107 A.2.1.length (nI actor)) 108 A.2.1.length (nI v)) 109 A.2.1.length (-4)) 111 (2 * A.2.1.length) 0) 111 (2 * A.2.1.length + 1) 0) :
    MD s (I, s.2) A.2.1.length ∧ I 94 16 = x ∧ MB (I, s.2) A A.1 (actor, v, -4, [], []) := by
  have md : MD s (I, s.2) A.2.1.length := by
    rw [hI]
    refine ⟨rfl, fun c x y => ?_, fun j x => ?_, fun c i x y z => ?_, fun j x y => ?_, fun j x => ?_⟩
    · dsimp only; rw [xup_ne (by omega), xup_ne (by omega), xup_ne (by omega), xup_ne (by omega), xup_ne (by omega), xup_ne (by omega)]
    · dsimp only; rw [xup_ne (by omega), xup_ne (by omega), xup_ne (by omega), xup_ne (by omega), xup_ne (by omega), xup_j x]
    · dsimp only; rw [xup_ne (by omega), xup_ne (by omega), xup_j z, xup_j z, xup_j z, xup_ne (by omega)]
    · dsimp only; rw [xup_j y, xup_j x, xup_ne (by omega), xup_ne (by omega), xup_ne (by omega), xup_ne (by omega)]
    · dsimp only; rw [xup_ne (by omega), xup_ne (by omega), xup_ne (by omega), xup_ne (by omega), xup_ne (by omega), xup_ne (by omega)]
  refine ⟨md, ?_, MA_MD hE hok hA md, ?_⟩
  · rw [hI, xup_ne (by omega), xup_ne (by omega), xup_ne (by omega), xup_ne (by omega), xup_ne (by omega), xup_eq, if_pos rfl]
  · rw [hI]
    refine ⟨?_, ?_, ?_, ⟨?_, fun k x h => by simp at h⟩, ⟨?_, fun k x h => by simp at h⟩⟩
    · dsimp only; rw [xup_ne (by omega), xup_ne (by omega), xup_ne (by omega), xup_ne (by omega), xup_eq, if_pos rfl]
    · dsimp only; rw [xup_ne (by omega), xup_ne (by omega), xup_ne (by omega), xup_eq, if_pos rfl]
    · dsimp only; rw [xup_ne (by omega), xup_ne (by omega), xup_eq, if_pos rfl]
    · dsimp only; rw [xup_j (by omega), xup_eq, if_pos rfl]; rfl
    · dsimp only; rw [xup_eq, if_pos rfl]; rfl
def endR (E : LEnv) (A : Ab) (actor : Nat) (ad : List Nat) (c : Cmd) (b : Nat) : Ab × Except (Nat × Nat) Nat := if (ek E b = 3 ∧ ek E (b + 1) = 24) ∨ (ek E b = 28 ∨ ek E b = 22 ∨ ek E b = 4) then (keepA A (learn E (learn E (learn E A.1 ad) c.2.2.1) c.2.2.2) (actor, c), .ok b) else (A, .error (mis E b))
/-- the second list -/
theorem j108 {A : Ab} {v f : Nat} {l1 : List Nat} {l2 : Int32} (hE : EOK E) (hok : AOK E A) (hs : ME s E) (hB : MB s A A.1 (actor, v, -4, l1, [])) (hn : A.2.1.length < 10) (hac : eK E actor = 1 ∨ eK E actor = 2) (hal : actor < eT E) (h1 : l1.Nodup ∧ ∀ x ∈ l1, x < eT E) (hb : s.1 94 16 = nI b) (hl : b ≤ em E) (hf : f < 4) (hf0 : f ≠ 0) (hf2 : f = 2 → ek E b = 25) {l5 : Int32} (h5 : l5 = if ek E b = 25 then 1 else 0) :
    FolP s (J_X10_command_108 (nI actor) l2 (nI f) l5 s) (if f = 1 then endR E A actor (adOf actor l2) (v, -4, l1, []) b else if ek E b = 25 then (match sList E A.1 actor (b + 1) with
      | .error e => (A, .error e)
      | .ok (x, c) => endR E A actor (adOf actor l2) (v, nI (ew E b), l1, x) c) else endR E A actor (adOf actor l2) (v, -4, l1, []) b) := by
  have h24 := hE.2.1
  have hc := enc_cases hE b
  obtain ⟨g1, g2, g3⟩ := tok_g hE hs hb hl
  have hpl := j140 (l2 := l2) hE hs hB hn hok.1 ⟨hal, h1, by simp, by simp⟩ hb hl
  unfold J_X10_command_108
  by_cases f1 : f = 1
  · rw [if_pos (show nI f ≤ 1 from nI_le (b := 1) (by omega) (by omega)), if_pos f1]
    exact hpl
  rw [if_neg (show ¬ nI f ≤ 1 from nI_ge (a := 1) (by omega) (by omega)), if_neg f1, h5]
  by_cases k : ek E b = 25
  · have hm := em_lt hE (a := b) (by omega)
    have e24 : s.1 94 24 = nI A.2.1.length := hB.1.2.1
    rw [if_pos k, if_pos k, if_neg (by decide), if_neg g1, g2, e24, if_neg (grd (n := 10) hn (by omega)), nI_clamp (by omega), show encN E b = 100 + ew E b by omega, show (100 : Int32) = nI 100 from rfl, pk_sub (by omega), show 100 + ew E b - 100 = ew E b by omega]
    dsimp only
    rw [xup_ne (show 94 ≠ 109 by omega), hb, nI_s]
    obtain ⟨I, hI⟩ : ∃ I : Nat → Nat → Int32, I = xup (xup s.1 109 A.2.1.length (nI (ew E b))) 94 16 (nI (b + 1)) := ⟨_, rfl⟩
    rw [← hI]
    have md : MD s (I, s.2) A.2.1.length := by
      rw [hI]
      refine ⟨rfl, fun c x y => ?_, fun j x => ?_, fun c i x y z => ?_, fun j x y => ?_, fun j x => ?_⟩
      · dsimp only; rw [xup_ne (by omega), xup_ne (by omega)]
      · dsimp only; rw [xup_j x, xup_ne (by omega)]
      · dsimp only; rw [xup_ne (by omega), xup_j z]
      · dsimp only; rw [xup_ne (by omega), xup_ne (by omega)]
      · dsimp only; rw [xup_ne (by omega), xup_ne (by omega)]
    have i16 : I 94 16 = nI (b + 1) := by rw [hI, xup_eq, if_pos rfl]
    have i0 : ∀ c, 107 ≤ c → c ≤ 111 → c ≠ 109 → I c = s.1 c := fun c x y z => by rw [hI, xup_ne (by omega), xup_ne z]
    have hBI : MB (I, s.2) A A.1 (actor, v, nI (ew E b), l1, []) := by
      refine ⟨MA_MD hE hok hB.1 md, ?_⟩
      obtain ⟨h7, h8, h9, h10, h11⟩ := hB.2
      refine ⟨by dsimp only; rw [i0 107 (by omega) (by omega) (by omega)]; exact h7, by dsimp only; rw [i0 108 (by omega) (by omega) (by omega)]; exact h8, ?_, by dsimp only; rw [i0 110 (by omega) (by omega) (by omega), i0 111 (by omega) (by omega) (by omega)]; exact h10, by dsimp only; rw [i0 110 (by omega) (by omega) (by omega), i0 111 (by omega) (by omega) (by omega)]; exact h11⟩
      dsimp only; rw [hI, xup_ne (by omega), xup_eq, if_pos rfl]
    have hsI := ME_MF3 hs (MF3_MD md)
    apply FolP_of (s1 := (I, s.2)) (MF3_MD md) (md.2.2.1 17 (by omega))
    have hL := list_m hE hsI hBI.1.1 hok.1 i16 (by omega) hac hal
    cases hr : sList E A.1 actor (b + 1) with
    | error e =>
      obtain ⟨s', q1, q2, q3, q4⟩ := hL.1 e hr
      rw [q1, Option.bind_some]
      exact FolP_er (if_pos rfl) (MF3_of2 q2) (MA_MF2 hBI.1 q2) q3 q4
    | ok q =>
      obtain ⟨x, c⟩ := q
      obtain ⟨s2, q1, ⟨q2, q3, q4⟩, q5⟩ := hL.2 x c hr
      obtain ⟨o1, o2, o3, o4⟩ := sList_ok hE hok.1 hal hr
      have hxl := pig (eT E) x o3 o4
      rw [q1, Option.bind_some]
      dsimp only
      rw [if_neg (by decide)]
      obtain ⟨s3, w1, w2, w3, w4⟩ := keepsB (sd := 1) hE hok (MB_MF2 hBI q2) ⟨hal, h1, by simp, by simp⟩ hn (by omega) q5 (by omega)
      rw [show (1 : Int32) = nI 1 from rfl, w1, Option.bind_some]
      rw [if_neg (by omega), if_neg (by omega)] at w4
      have m3 := MF3_trans (MF3_of2 q2) w2
      apply FolP_of (s1 := s3) m3 (by rw [w3, q3])
      exact j140 hE (ME_MF3 hsI m3) w4 hn hok.1 ⟨hal, h1, o3, o4⟩ (by rw [w3, q4]) o2
  · rw [if_neg k, if_neg k, if_pos rfl]
    exact hpl
end
