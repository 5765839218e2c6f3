section
variable {s : St} {E : LEnv} {T : Nat → List Nat} {a b p actor n sd : Nat} {l : List Nat}
theorem ag25 (hE : EOK E) (hs : ME s E) (hsd : sd < 2) (hl : ML (fun k => s.1 112 (24 * sd + k)) (s.1 113 sd) l) (hlen : l.length ≤ 24) (hlt : ∀ x ∈ l, x < eT E) : ∀ f k (x : Bool), k ≤ l.length → l.length < f + k →
    L_X10_again_25 f (if x = true then 1 else 0) (nI sd) (nI k) s = some (if (x && (l.drop k).all (eS E)) = true then 1 else 0, s) := by
  have h24 := hE.2.1
  intro f
  induction f with
  | zero => intro k x h1 h2; omega
  | succ f ih =>
    intro k x h1 h2
    unfold L_X10_again_25
    rw [if_neg (grd (n := 2) hsd (by omega)), nI_clamp (by omega), hl.1]
    by_cases e : k = l.length
    · rw [if_pos (nI_le (by omega) (by omega)), e, List.drop_length]; simp
    · have hk : k < l.length := by omega
      have hv : s.1 112 (24 * sd + k) = nI l[k] := hl.2 k _ (List.getElem?_eq_getElem hk)
      have hx := hlt _ (List.getElem_mem hk)
      rw [if_neg (nI_ge hk (by omega)), nI24, nI_add, if_neg (grd (n := 48) (by omega) (by omega)), nI_clamp (by omega), hv, if_neg (grd (n := 24) (by omega) (by omega)), nI_clamp (by omega), hs.2.2.1 _ hx, and01, nI_s, ih (k + 1) _ (by omega) (by omega), List.drop_eq_getElem_cons hk, List.all_cons, Bool.and_assoc]
theorem ag20 {r : Ord} (hE : EOK E) (hs : ME s E) (hL : MLa s r) (hr : ROK E r) : L_X10_again_20 300 (if eS E r.1 = true then 1 else 0) 0 s = some (if (r.1 :: (r.2.2.2.1 ++ r.2.2.2.2)).all (eS E) = true then 1 else 0, s) := by
  have hln := ROK_len hE hr
  have h0 := ag25 (sd := 0) (l := r.2.2.2.1) hE hs (by omega) (ML_f hL.2.2.2.1 rfl (fun k hk => by rw [show 24 * 0 + k = k by omega]) hln.1) hln.1 hr.2.1.2 300 0 (eS E r.1) (by omega) (by omega)
  have h1 := ag25 (sd := 1) (l := r.2.2.2.2) hE hs (by omega) hL.2.2.2.2 hln.2 hr.2.2.2 300 0 (eS E r.1 && r.2.2.2.1.all (eS E)) (by omega) (by omega)
  rw [List.drop_zero, nI_0] at h0 h1
  unfold L_X10_again_20
  rw [if_neg (by decide), h0, Option.bind_some]
  dsimp only
  unfold L_X10_again_20
  rw [if_neg (by decide), show (0 : Int32) + 1 = nI 1 from rfl, h1, Option.bind_some]
  dsimp only
  unfold L_X10_again_20
  rw [if_pos (by decide), List.all_cons, List.all_append, Bool.and_assoc]
theorem ag133 (hn : n < 10) (hsd : sd < 2) (h24 : s.1 94 24 = nI n) (h13 : s.1 113 sd = nI l.length) (hl : ∀ k x, l[k]? = some x → s.1 112 (24 * sd + k) = nI x) (hlen : l.length ≤ 24) : ∀ f k (s' : St), k ≤ l.length → l.length < f + k → CP s s' 110 (48 * n + 24 * sd) l k →
    ∃ s'', L_X10_again_133 f (nI sd) (nI k) s' = some s'' ∧ CP s s'' 110 (48 * n + 24 * sd) l l.length := by
  intro f
  induction f with
  | zero => intro k s' h1 h2; omega
  | succ f ih =>
    intro k s' h1 h2 hc
    unfold L_X10_again_133
    rw [if_neg (grd (n := 2) hsd (by omega)), nI_clamp (by omega), hc.2.1 113 (by omega), h13]
    by_cases e : k = l.length
    · rw [if_pos (nI_le (by omega) (by omega))]
      subst e
      exact ⟨s', rfl, hc⟩
    · have hk : k < l.length := by omega
      have hx : l[k]? = some l[k] := List.getElem?_eq_getElem hk
      rw [if_neg (nI_ge hk (by omega)), hc.2.1 94 (by omega), h24, nI4824, nI24, nI_add, if_neg (grd (n := 48) (by omega) (by omega)), if_neg (grd (n := 480) (by omega) (by omega)), nI_clamp (n := 48 * n + 24 * sd + k) (by omega), nI_clamp (by omega), hc.2.1 112 (by omega), hl k _ hx, nI_s]
      exact ih (k + 1) _ (by omega) (by omega) (CP_step hc hx (by omega))
theorem ag_side (hn : n < 10) (hsd : sd < 2) (h24 : s.1 94 24 = nI n) (hl : ML (fun k => s.1 112 (24 * sd + k)) (s.1 113 sd) l) (hlen : l.length ≤ 24) :
    ∃ s2, (∀ f, L_X10_again_115 (f + 1) (nI sd) s = L_X10_again_115 f (nI (sd + 1)) s2) ∧ s2.2 = s.2 ∧ (∀ c, c ≠ 110 → c ≠ 111 → s2.1 c = s.1 c) ∧ (∀ j, j ≠ 2 * n + sd → s2.1 111 j = s.1 111 j) ∧ (∀ j, (j < 48 * n + 24 * sd ∨ 48 * n + 24 * sd + 24 ≤ j) → s2.1 110 j = s.1 110 j) ∧ ML (fun k => s2.1 110 (48 * n + 24 * sd + k)) (s2.1 111 (2 * n + sd)) l := by
  obtain ⟨s2, q1, q2⟩ := ag133 (s := (xup s.1 111 (2 * n + sd) (nI l.length), s.2)) (l := l) hn hsd (by dsimp only; rw [xup_ne (by omega)]; exact h24) (by dsimp only; rw [xup_ne (by omega)]; exact hl.1) (fun k x hx => by dsimp only; rw [xup_ne (by omega)]; exact hl.2 k x hx) hlen 300 0 _ (by omega) (by omega) (CP_0 _ _ _ _)
  rw [nI_0] at q1
  refine ⟨s2, fun f => ?_, q2.1, fun c c1 c2 => ?_, fun j hj => ?_, fun j hj => ?_, ?_, fun k x hx => CP_end q2 hx⟩
  · conv => lhs; unfold L_X10_again_115
    rw [if_neg (show ¬ (2 : Int32) ≤ nI sd from nI_ge (b := 2) hsd (by omega)), if_neg (grd (n := 2) hsd (by omega)), h24, nI2, nI_add, if_neg (grd (n := 20) (by omega) (by omega)), nI_clamp (n := 2 * n + sd) (by omega), nI_clamp (by omega), hl.1]
    dsimp only
    rw [q1, Option.bind_some, nI_s]
  · rw [q2.2.1 c c1]; dsimp only; rw [xup_ne c2]
  · rw [q2.2.1 111 (by omega)]; dsimp only; rw [xup_j hj]
  · rw [q2.2.2.1 j hj]; dsimp only; rw [xup_ne (by omega)]
  · rw [q2.2.1 111 (by omega)]; dsimp only; rw [xup_eq, if_pos rfl]
theorem eq92 (s : St) : J_X10_again_92 s = gset (fun x => x) 107 10 (s.1 94 26) s.1 fun I => gset (fun x => x) 108 10 (I 94 27) I fun I => gset (fun x => x) 109 10 (I 94 28) I fun I => (L_X10_again_115 300 (0 : Int32) (I, s.2)).bind fun q44 => some ((1 : Int32), (xup (xup q44.1 94 24 ((q44.1 94 24) + (1 : Int32))) 94 25 (xup q44.1 94 24 ((q44.1 94 24) + (1 : Int32)) 94 25 + (1 : Int32)), q44.2)) := rfl
theorem j92 {A : Ab} (hE : EOK E) (hok : AOK E A) (hA : MA s A) (hn : A.2.1.length < 10) (hb : s.1 94 16 = nI b) : FolP s (J_X10_again_92 s) (keepA A A.1 A.2.2.1, .ok b) := by
  have hr := hok.2.2
  have hln := ROK_len hE hr
  obtain ⟨h1, h2, h3, h4, h5, h6⟩ := id hA
  rw [eq92, gset_k (m := A.2.1.length) h2 hn (by omega), xup_ne (show 94 ≠ 107 by omega), gset_k (m := A.2.1.length) (by rw [xup_ne (show 94 ≠ 107 by omega)]; exact h2) hn (by omega), xup_ne (show 94 ≠ 108 by omega), xup_ne (show 94 ≠ 107 by omega), gset_k (m := A.2.1.length) (by rw [xup_ne (show 94 ≠ 108 by omega), xup_ne (show 94 ≠ 107 by omega)]; exact h2) hn (by omega)]
  obtain ⟨J, hJ, jc, j7, j8, j9, jn⟩ : ∃ J : Nat → Nat → Int32, J = xup (xup (xup s.1 107 A.2.1.length (s.1 94 26)) 108 A.2.1.length (s.1 94 27)) 109 A.2.1.length (s.1 94 28) ∧ (∀ c, ¬ (107 ≤ c ∧ c ≤ 109) → J c = s.1 c) ∧ J 107 A.2.1.length = nI A.2.2.1.1 ∧ J 108 A.2.1.length = nI A.2.2.1.2.1 ∧ J 109 A.2.1.length = A.2.2.1.2.2.1 ∧ (∀ c i, 107 ≤ c → c ≤ 109 → i ≠ A.2.1.length → J c i = s.1 c i) := by
    refine ⟨_, rfl, fun c hc => by rw [xup_ne (by omega), xup_ne (by omega), xup_ne (by omega)], ?_, ?_, ?_, fun c i x y z => by rw [xup_j z, xup_j z, xup_j z]⟩
    · rw [xup_ne (by omega), xup_ne (by omega), xup_eq, if_pos rfl]; exact h6.1
    · rw [xup_ne (by omega), xup_eq, if_pos rfl]; exact h6.2.1
    · rw [xup_eq, if_pos rfl]; exact h6.2.2.1
  rw [← hJ]
  obtain ⟨s1, a1, a2, a3, a4, a5, a6⟩ := ag_side (s := (J, s.2)) (n := A.2.1.length) (sd := 0) (l := A.2.2.1.2.2.2.1) hn (by omega) (by dsimp only; rw [jc 94 (by omega)]; exact h2) (by
    dsimp only; rw [jc 112 (by omega), jc 113 (by omega)]
    exact ML_f h6.2.2.2.1 rfl (fun k hk => by rw [show 24 * 0 + k = k by omega]) hln.1) hln.1
  obtain ⟨s2, b1, b2, b3, b4, b5, b6⟩ := ag_side (s := s1) (n := A.2.1.length) (sd := 1) (l := A.2.2.1.2.2.2.2) hn (by omega) (by rw [a3 94 (by omega) (by omega)]; dsimp only; rw [jc 94 (by omega)]; exact h2) (by rw [a3 112 (by omega) (by omega), a3 113 (by omega) (by omega)]; dsimp only; rw [jc 112 (by omega), jc 113 (by omega)]; exact h6.2.2.2.2) hln.2
  have hrun : L_X10_again_115 300 0 (J, s.2) = some s2 := by
    have := a1 299
    rw [nI_0] at this
    rw [this, b1 298]
    rfl
  rw [hrun, Option.bind_some]
  have ec : ∀ c, ¬ (107 ≤ c ∧ c ≤ 111) → s2.1 c = s.1 c := fun c hc => by rw [b3 c (by omega) (by omega), a3 c (by omega) (by omega)]; exact jc c (by omega)
  have ec9 : ∀ c, 107 ≤ c → c ≤ 109 → s2.1 c = J c := fun c x y => by rw [b3 c (by omega) (by omega), a3 c (by omega) (by omega)]
  have fr : ∀ c, c ≠ 94 → xup (xup s2.1 94 24 (s2.1 94 24 + 1)) 94 25 (xup s2.1 94 24 (s2.1 94 24 + 1) 94 25 + 1) c = s2.1 c := fun c hc => by rw [xup_ne hc, xup_ne hc]
  have fj : ∀ j, j ≠ 24 → j ≠ 25 → xup (xup s2.1 94 24 (s2.1 94 24 + 1)) 94 25 (xup s2.1 94 24 (s2.1 94 24 + 1) 94 25 + 1) 94 j = s.1 94 j := fun j x y => by rw [xup_j y, xup_j x, ec 94 (by omega)]
  refine FolP_ok rfl ⟨by rw [b2, a2], fun c x y => ?_, fun j x => ?_⟩ ⟨?_, ?_, ?_, ?_, ?_, ?_⟩ ?_ ?_
  · dsimp only; rw [fr c x]; exact ec c (by omega)
  · dsimp only; exact fj j (by omega) (by omega)
  · show MT _ A.1
    unfold MT
    dsimp only
    rw [fr 114 (by omega), fr 115 (by omega), ec 114 (by omega), ec 115 (by omega)]
    exact h1
  · dsimp only; rw [xup_j (by omega), xup_eq, if_pos rfl, ec 94 (by omega), h2, nI_s]; simp [keepA]
  · simp [keepA]; omega
  · dsimp only; rw [xup_eq, if_pos rfl, xup_j (by omega), ec 94 (by omega), h4]; rfl
  · intro i r' hr'
    have hi : i < A.2.1.length + 1 := by have := (List.getElem?_eq_some_iff.mp hr').1; simpa [keepA] using this
    have cg : ∀ r'', MOr s2 i r'' → MOr (xup (xup s2.1 94 24 (s2.1 94 24 + 1)) 94 25 (xup s2.1 94 24 (s2.1 94 24 + 1) 94 25 + 1), s2.2) i r'' := fun r'' h => MOr_congr h (fun c x y => by dsimp only; rw [fr c (by omega)])
    apply cg
    by_cases e : i = A.2.1.length
    · have : r' = A.2.2.1 := by
        rw [e] at hr'; simp [keepA] at hr'; exact hr'.symm
      rw [this, e]
      refine ⟨by rw [ec9 107 (by omega) (by omega)]; exact j7, by rw [ec9 108 (by omega) (by omega)]; exact j8, by rw [ec9 109 (by omega) (by omega)]; exact j9, ?_, b6⟩
      refine ML_f a6 (b4 _ (by omega)) (fun k hk => ?_) hln.1
      show s2.1 110 (48 * A.2.1.length + k) = s1.1 110 (48 * A.2.1.length + 24 * 0 + k)
      rw [b5 _ (by omega), show 48 * A.2.1.length + 24 * 0 + k = 48 * A.2.1.length + k by omega]
    · have hA' : A.2.1[i]? = some r' := by
        rw [← hr']; show _ = (A.2.1 ++ [A.2.2.1])[i]?
        rw [List.getElem?_append_left (by omega)]
      have hl' := ROK_len hE (hok.2.1 r' (List.mem_of_getElem? hA'))
      refine MOr_fr (h5 i r' hA') hl' ?_ ?_ ?_ ?_ ?_ (fun j x y => ?_)
      · rw [ec9 107 (by omega) (by omega)]; exact jn 107 i (by omega) (by omega) e
      · rw [ec9 108 (by omega) (by omega)]; exact jn 108 i (by omega) (by omega) e
      · rw [ec9 109 (by omega) (by omega)]; exact jn 109 i (by omega) (by omega) e
      · rw [b4 _ (by omega), a4 _ (by omega)]; dsimp only; rw [jc 111 (by omega)]
      · rw [b4 _ (by omega), a4 _ (by omega)]; dsimp only; rw [jc 111 (by omega)]
      · rw [b5 _ (by omega), a5 _ (by omega)]; dsimp only; rw [jc 110 (by omega)]
  · show MLa _ A.2.2.1
    exact MLa_congr h6 (by dsimp only; rw [fr 112 (by omega)]; exact ec 112 (by omega)) (by dsimp only; rw [fr 113 (by omega)]; exact ec 113 (by omega)) (fun j x y => by dsimp only; exact fj j (by omega) (by omega))
  · dsimp only; exact fj 17 (by omega) (by omega)
  · dsimp only; rw [fj 16 (by omega) (by omega)]; exact hb
theorem again_m {A : Ab} (hE : EOK E) (hok : AOK E A) (hs : ME s E) (hA : MA s A) (ha : s.1 94 16 = nI a) (hk : ek E a = 7) : FolP s (F_X10_again s) (sAgain E A a) := by
  have h24 := hE.2.1
  have hm := em_lt hE (a := a) (by omega)
  obtain ⟨g1, g2, g3⟩ := tok_g hE hs ha (by omega)
  have hr := hok.2.2
  have hfl : ∀ f, FolP s ((F_X10_fails (nI f) (s.1 106 a) s).bind fun q => if q.1 = 0 ∨ q.1 = 1 then some (q.1, q.2) else none) (A, .error (f, a)) := by
    intro f
    obtain ⟨s', p1, p2, p3, p4⟩ := fails_m (s := s) f (i := a) rfl
    exact FolP_er (if01 (P := True) p1 (Or.inl rfl)) (MF3_of p2) (MA_MF2 hA (MF2_of p2)) p3 p4
  unfold F_X10_again sAgain
  rw [hA.2.2.2.1, g3]
  by_cases c0 : A.2.2.2 = 0
  · rw [if_pos c0, if_neg (fun q => g1 (by rw [g3]; exact q)), if_pos c0]
    exact hfl 6
  have e26 : s.1 94 26 = nI A.2.2.1.1 := hA.2.2.2.2.2.1
  have hx := hr.1
  rw [if_neg c0, if_neg c0, e26, if_neg (grd (n := 24) (by omega) (by omega)), nI_clamp (by omega), hs.2.2.1 _ hx, ag20 hE hs hA.2.2.2.2.2 hr, Option.bind_some]
  dsimp only
  by_cases c1 : (A.2.2.1.1 :: (A.2.2.1.2.2.2.1 ++ A.2.2.1.2.2.2.2)).all (eS E) = false
  · rw [if_pos c1, if_pos (show (if (A.2.2.1.1 :: (A.2.2.1.2.2.2.1 ++ A.2.2.1.2.2.2.2)).all (eS E) = true then (1 : Int32) else 0) = 0 by rw [c1]; rfl), if_neg g1, g3]
    exact hfl 7
  have c1' : (A.2.2.1.1 :: (A.2.2.1.2.2.2.1 ++ A.2.2.1.2.2.2.2)).all (eS E) = true := by simpa using c1
  rw [if_neg c1, if_neg (show ¬ (if (A.2.2.1.1 :: (A.2.2.1.2.2.2.1 ++ A.2.2.1.2.2.2.2)).all (eS E) = true then (1 : Int32) else 0) = 0 by rw [c1']; decide), hA.2.1]
  by_cases c2 : A.2.1.length = 10
  · rw [if_pos (show nI A.2.1.length = 10 by rw [c2]; rfl), if_neg g1, g3, if_pos c2]
    exact hfl 9
  have hn : A.2.1.length < 10 := by have := hA.2.2.1; omega
  rw [if_neg (show ¬ nI A.2.1.length = 10 from nI_ne (b := 10) c2 (by omega) (by omega)), if_neg c2, ha, nI_s]
  have hj := MJ_1 s (nI (a + 1))
  have m1 := MF_MJ hj
  have hp1 : (xup s.1 94 16 (nI (a + 1)), s.2).1 94 16 = nI (a + 1) := by dsimp only; rw [xup_eq, if_pos rfl]
  have hs1 := ME_MF hs m1
  have hA1 := MA_MF2 hA (MF2_of m1)
  obtain ⟨w1, w2, w3⟩ := tok_g hE hs1 hp1 (by omega)
  have hc := enc_cases hE (a + 1)
  apply FolP_of (s1 := (xup s.1 94 16 (nI (a + 1)), s.2)) (MF3_of m1) (hj.2.2 17 (by omega))
  clear m1 hj
  revert hp1 hs1 hA1 w1 w2 w3
  generalize ((xup s.1 94 16 (nI (a + 1)), s.2) : St) = s1
  intro hp1 hs1 hA1 w1 w2 w3
  by_cases k1 : ek E (a + 1) = 22 ∨ ek E (a + 1) = 4
  · rw [bt_y hE hs1 hp1 (by omega) k1, Option.bind_some, if_pos (Or.inr k1)]
    exact j92 hE hok hA1 hn hp1
  · rw [bt_n hE hs1 hp1 (by omega) k1, Option.bind_some]
    dsimp only
    rw [if_pos rfl, if_neg w1, w2]
    by_cases k2 : ek E (a + 1) = 28
    · rw [if_pos (show nI (encN E (a + 1)) = 33 from tok_y hE (c := 33) (by omega)), if_pos (Or.inl k2)]
      exact j92 hE hok hA1 hn hp1
    · rw [if_neg (show ¬ nI (encN E (a + 1)) = 33 from tok_n hE (c := 33) (by omega) (by omega)), if_neg (by omega)]
      obtain ⟨s', p1, p2, p3, p4⟩ := wrong_m hE hs1 hp1 (by omega)
      exact FolP_er (if01 (P := True) p1 (Or.inl rfl)) (MF3_of p2) (MA_MF2 hA1 (MF2_of p2)) p3 p4
end
