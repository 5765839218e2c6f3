section
variable {s : St} {n k : Nat}
theorem kf' {i n : Nat} (h : n ≤ i) (hi : i ≤ 2000) : nI n ≤ nI i := by
  rw [Int32.le_iff_toInt_le, nI_toInt (by omega), nI_toInt (by omega)]; omega
theorem nI_s {i : Nat} : nI i + 1 = nI (i + 1) := by rw [show (1 : Int32) = nI 1 from rfl, nI_add]
theorem roo (hc : s.1 4 7 = nI n) (hn : n ≤ 60) (hk : k < n) : ∀ f i, i ≤ n → n < f + i → ∃ b : Bool, L_X8_isRootOfOthers_2 f (nI k) (nI i) s = some (if b then 1 else 0, s) ∧ (b = true ↔ ∃ j, i ≤ j ∧ j < n ∧ j ≠ k ∧ s.1 11 j = nI k) := by
  intro f
  induction f with
  | zero => intro i h1 h2; omega
  | succ f ih =>
    intro i h1 h2
    unfold L_X8_isRootOfOthers_2
    rw [hc]
    by_cases e : i = n
    · subst e
      exact ⟨false, by rw [if_pos (kf' (Nat.le_refl _) (by omega))]; rfl, by simp; intro j a b; omega⟩
    · have hi : i < n := by omega
      obtain ⟨q1, q2, q3, q4⟩ := kf hi (by omega)
      have n60 : ¬ 60 ≤ i := by omega
      rw [if_neg q2, q4]
      obtain ⟨b, hb, hb2⟩ := ih (i + 1) (by omega) (by omega)
      by_cases ek : i = k
      · rw [if_pos (by rw [ek]), nI_s]
        refine ⟨b, hb, hb2.trans ⟨?_, ?_⟩⟩
        · rintro ⟨j, a, c, d, g⟩; exact ⟨j, by omega, c, d, g⟩
        · rintro ⟨j, a, c, d, g⟩; exact ⟨j, by omega, c, d, g⟩
      · rw [if_neg (fun q => ek (nI_inj (by omega) (by omega) q)), if_neg (fun q => q.elim q1 n60)]
        by_cases er : s.1 11 i = nI k
        · rw [if_pos er]
          exact ⟨true, rfl, by simp; exact ⟨i, by omega, hi, ek, er⟩⟩
        · rw [if_neg er, nI_s]
          refine ⟨b, hb, hb2.trans ⟨?_, ?_⟩⟩
          · rintro ⟨j, a, c, d, g⟩; exact ⟨j, by omega, c, d, g⟩
          · rintro ⟨j, a, c, d, g⟩
            by_cases ej : j = i
            · subst ej; exact absurd g er
            · exact ⟨j, by omega, c, d, g⟩
theorem or01 {x : Int32} (h : x = 0 ∨ x = 1) : (x ||| 1 = 1) ∧ (x ||| 0 = x) := by rcases h with rfl | rfl <;> exact ⟨rfl, rfl⟩
theorem s45 {l2 : Int32} (hc : s.1 94 5 = nI n) (hn : n ≤ 60) : ∀ f i (l3 : Int32), i ≤ n → n < f + i → (l3 = 0 ∨ l3 = 1) → ∃ r : Int32, L_X10_same_45 f (nI k) l2 l3 (nI i) s = some (r, s) ∧ (r = 0 ∨ r = 1) ∧ (r = 0 ↔ l3 = 0 ∧ ∀ j, i ≤ j → j < n → ¬ s.1 102 j = nI k) := by
  intro f
  induction f with
  | zero => intro i l3 h1 h2; omega
  | succ f ih =>
    intro i l3 h1 h2 h3
    unfold L_X10_same_45
    rw [hc]
    by_cases e : i = n
    · subst e
      exact ⟨l3, by rw [if_pos (kf' (Nat.le_refl _) (by omega))], h3, by simp; intro _ j a b; omega⟩
    · have hi : i < n := by omega
      obtain ⟨q1, q2, q3, q4⟩ := kf hi (by omega)
      have n60 : ¬ 60 ≤ i := by omega
      rw [if_neg q2, q4, if_neg (fun q => q.elim q1 n60), (or01 h3).1, (or01 h3).2, nI_s]
      by_cases er : s.1 102 i = nI k
      · rw [if_pos er]
        obtain ⟨r, a, b, c⟩ := ih (i + 1) 1 (by omega) (by omega) (Or.inr rfl)
        refine ⟨r, a, b, c.trans ⟨fun q => absurd q.1 (by decide), fun q => absurd er (q.2 i (by omega) hi)⟩⟩
      · rw [if_neg er]
        obtain ⟨r, a, b, c⟩ := ih (i + 1) l3 (by omega) (by omega) h3
        refine ⟨r, a, b, c.trans ⟨fun q => ⟨q.1, fun j x y => ?_⟩, fun q => ⟨q.1, fun j x y => q.2 j (by omega) y⟩⟩⟩
        by_cases ej : j = i
        · rw [ej]; exact er
        · exact q.2 j (by omega) y
theorem s65 {l2 : Int32} (hk : k < 60) : ∀ f i (l3 : Int32), i ≤ 24 → 24 < f + i → (l3 = 0 ∨ l3 = 1) → ∃ r : Int32, L_X10_same_65 f (nI k) l2 l3 (nI i) s = some (r, s) ∧ (r = 0 ∨ r = 1) ∧ (r = 0 ↔ l3 = 0 ∧ ∀ j, i ≤ j → j < 24 → s.1 103 (24 * k + j) = 0) := by
  intro f
  induction f with
  | zero => intro i l3 h1 h2; omega
  | succ f ih =>
    intro i l3 h1 h2 h3
    unfold L_X10_same_65
    by_cases e : i = 24
    · subst e
      exact ⟨l3, by rw [if_pos (show (24 : Int32) ≤ nI 24 by decide)], h3, by simp; intro _ j a b; omega⟩
    · have hi : i < 24 := by omega
      have q2 : ¬ (24 : Int32) ≤ nI i := nI_ge (b := 24) hi (by omega)
      have hcl : (nI (24 * k + i)).toNatClampNeg = 24 * k + i := nI_clamp (by omega)
      have hps : ¬ nI (24 * k + i) < 0 := nI_pos (by omega)
      have g : ¬ 1440 ≤ 24 * k + i := by omega
      rw [if_neg q2, nI24, nI_add, hcl, if_neg (fun q => q.elim hps g), (or01 h3).1, (or01 h3).2, nI_s]
      by_cases er : s.1 103 (24 * k + i) = 0
      · rw [if_pos er]
        obtain ⟨r, a, b, c⟩ := ih (i + 1) l3 (by omega) (by omega) h3
        refine ⟨r, a, b, c.trans ⟨fun q => ⟨q.1, fun j x y => ?_⟩, fun q => ⟨q.1, fun j x y => q.2 j (by omega) y⟩⟩⟩
        by_cases ej : j = i
        · rw [ej]; exact er
        · exact q.2 j (by omega) y
      · rw [if_neg er]
        obtain ⟨r, a, b, c⟩ := ih (i + 1) 1 (by omega) (by omega) (Or.inr rfl)
        refine ⟨r, a, b, c.trans ⟨fun q => absurd q.1 (by decide), fun q => absurd (q.2 i (by omega) hi) er⟩⟩
/-- a word is in use in both, or in neither -/
theorem used (hW : IW s n) (hk : k < n) : ∃ b : Bool, F_X8_isInUse (nI k) s = some (if b then 1 else 0, s) ∧ (b = true ↔ ¬ (s.1 101 k ≤ 0 ∧ ∀ j, j < 24 → s.1 103 (24 * k + j) = 0)) := by
  obtain ⟨h60, hc, hm, hw, hz, hb, hbb⟩ := hW
  have e8 := (hw k hk).2.2.1
  have hz : (s.1 9 k = 0 ∧ s.1 10 k = 0) ↔ ∀ j, j < 24 → s.1 103 (24 * k + j) = 0 := by
    constructor
    · intro h j hj
      rw [hb k j (by omega) hj, h.1, h.2, b_0]; rfl
    · intro h
      have : ∀ j, j < 32 → bt (s.1 9 k) j = false ∧ bt (s.1 10 k) j = false := by
        intro j hj
        by_cases e : j < 24
        · have := h j e
          rw [hb k j (by omega) e] at this
          revert this
          cases bt (s.1 9 k) j <;> cases bt (s.1 10 k) j <;> decide
        · exact hbb k j (by omega) (by omega)
      exact ⟨b_zero.mpr (fun j hj => (this j hj).1), b_zero.mpr (fun j hj => (this j hj).2)⟩
  unfold F_X8_isInUse
  rw [nounsOf_k hc h60 hk]
  simp only [Option.bind_some]
  rw [adjsOf_k hc h60 hk]
  simp only [Option.bind_some]
  rw [formOf_k hc h60 hk]
  simp only [Option.bind_some]
  by_cases h9 : s.1 9 k = 0
  · rw [if_pos h9]
    by_cases h10 : s.1 10 k = 0
    · rw [if_pos h10, e8]
      by_cases hf : s.1 101 k ≤ 0
      · rw [if_pos hf]; exact ⟨false, rfl, by simp [hf]; exact hz.mp ⟨h9, h10⟩⟩
      · rw [if_neg hf]; exact ⟨true, rfl, by simp [hf]⟩
    · rw [if_neg h10]; exact ⟨true, rfl, by rw [← hz]; simp [h10]⟩
  · rw [if_neg h9]; exact ⟨true, rfl, by rw [← hz]; simp [h9]⟩
end
theorem op_same : Op_same INV := by
  intro s a1 a2 hinv
  obtain ⟨nT, nW, nB, nO, hT, hW, hX, hB, hP, hO, hF⟩ := id hinv
  obtain ⟨h60, hc, hm, hw, hz, hb, hbb⟩ := id hW
  rcases ix_out (a := a1) (n := nW) (m := 60) (by omega) h60 with ⟨k, hk, rfl⟩ | hout
  · obtain ⟨q1, q2, q3, q4⟩ := kf hk (by omega)
    have n60 : ¬ 60 ≤ k := by omega
    rcases ix_out (a := a2) (n := nW) (m := 60) (by omega) h60 with ⟨v, hv, rfl⟩ | hout
    · obtain ⟨v1, v2, v3, v4⟩ := kf hv (by omega)
      have v60 : ¬ 60 ≤ v := by omega
      have hlt : nI v < nI k ↔ v < k := by rw [Int32.lt_iff_toInt_lt, nI_toInt (by omega), nI_toInt (by omega)]; omega
      have hle : nI k ≤ nI v ↔ k ≤ v := by rw [Int32.le_iff_toInt_le, nI_toInt (by omega), nI_toInt (by omega)]; omega
      have c1 : ∀ z : Option (Int32 × St), (if v < k then (if s.1 7 k = s.1 7 v then (if s.1 11 v = nI v then (if s.1 11 k = nI k then ((F_X8_isRootOfOthers (nI k) s).bind fun q13 => if q13.1 = (0 : Int32) then ((F_X8_isInUse (nI k) q13.2).bind fun q15 => if q15.1 = (0 : Int32) then ((F_X8_setRoot (nI k) (nI v) q15.2).bind fun q17 => some ((0 : Int32), q17)) else (some ((-2 : Int32), q15.2))) else (some ((-2 : Int32), q13.2))) else some (-2, s)) else some (-1, s)) else some (-1, s)) else some (-1, s)) = z → F_X9_same (nI k) (nI v) s = z := by
        intro z hz
        unfold F_X9_same
        rw [whas_k hc hk (by omega)]
        simp only [Option.bind_some, if_neg (show ¬ (1 : Int32) = 0 by decide)]
        rw [whas_k hc hv (by omega)]
        simp only [Option.bind_some, if_neg (show ¬ (1 : Int32) = 0 by decide)]
        rw [sortOf_k hc h60 hk]
        simp only [Option.bind_some]
        rw [sortOf_k hc h60 hv]
        simp only [Option.bind_some]
        rw [rootOf_k hc h60 hv]
        simp only [Option.bind_some]
        rw [rootOf_k hc h60 hk]
        simp only [Option.bind_some]
        by_cases h : v < k
        · rw [if_pos (hlt.mpr h)]; rw [if_pos h] at hz; exact hz
        · rw [if_neg (fun q => h (hlt.mp q))]; rw [if_neg h] at hz; exact hz
      obtain ⟨e7, -, e8, -, e11, hr, -⟩ := hw k hk
      obtain ⟨f7, -, f8, -, f11, fr, -⟩ := hw v hv
      obtain ⟨b1, hb1, hb1'⟩ := roo hc h60 hk 300 0 (by omega) (by omega)
      obtain ⟨b2, hb2, hb2'⟩ := used hW hk
      have hq : (∃ j, 0 ≤ j ∧ j < nW ∧ j ≠ k ∧ s.1 11 j = nI k) ↔ ∃ j, j < nW ∧ s.1 102 j = nI k := by
        constructor
        · rintro ⟨j, -, a, b, c⟩
          obtain ⟨-, -, -, -, g, -, -⟩ := hw j a
          rw [g] at c
          by_cases e : s.1 102 j = -4
          · rw [if_pos e] at c; exact absurd (nI_inj (by omega) (by omega) c) b
          · rw [if_neg e] at c; exact ⟨j, a, c⟩
        · rintro ⟨j, a, c⟩
          obtain ⟨-, -, -, -, g, g', -⟩ := hw j a
          have e : ¬ s.1 102 j = -4 := by rw [c]; exact nI_m4 (by omega)
          refine ⟨j, by omega, a, ?_, by rw [g, if_neg e]; exact c⟩
          rintro rfl
          rcases g' with h | ⟨v', h1, h2, -⟩
          · exact e h
          · rw [h2] at c; have := nI_inj (by omega) (by omega) c; omega
      have c2 : ∀ s1 : St, (∀ d, d ≠ 11 → s1.1 d = s.1 d) → v < k → s.1 100 k = s.1 100 v → s.1 102 v = -4 → F_X10_same (nI k) (nI v) s1 = (if s.1 102 k = -4 ∧ s.1 101 k ≤ 0 ∧ (∀ j, j < nW → ¬ s.1 102 j = nI k) ∧ (∀ j, j < 24 → s.1 103 (24 * k + j) = 0) then some (0, (xup s1.1 102 k (nI v), s1.2)) else some (-2, s1)) := by
        intro s1 hs h1 h2 h3
        have hm' : s1.1 94 5 = nI nW := by rw [hs 94 (by omega)]; exact hm
        have tail : ∀ (l3 : Int32), (l3 = 0 ∨ l3 = 1) → ((L_X10_same_45 300 (nI k) (nI v) l3 (0 : Int32) s1).bind fun q15 => (L_X10_same_65 300 (nI k) (nI v) q15.1 (0 : Int32) q15.2).bind fun q20 => if q20.1 = (0 : Int32) then (some ((0 : Int32), (xup q20.2.1 102 k (nI v), q20.2.2))) else (some ((-2 : Int32), q20.2))) = (if l3 = 0 ∧ (∀ j, j < nW → ¬ s.1 102 j = nI k) ∧ (∀ j, j < 24 → s.1 103 (24 * k + j) = 0) then some (0, (xup s1.1 102 k (nI v), s1.2)) else some (-2, s1)) := by
          intro l3 hl3
          obtain ⟨r, e1, e2, e3⟩ := s45 (l2 := nI v) (k := k) hm' h60 300 0 l3 (by omega) (by omega) hl3
          obtain ⟨r', g1, g2, g3⟩ := s65 (s := s1) (l2 := nI v) (k := k) (by omega) 300 0 r (by omega) (by omega) e2
          rw [nI_0] at e1 g1
          rw [e1]
          simp only [Option.bind_some]
          rw [g1]
          simp only [Option.bind_some]
          rw [hs 102 (by omega)] at e3
          rw [hs 103 (by omega), e3] at g3
          by_cases h : l3 = 0 ∧ (∀ j, j < nW → ¬ s.1 102 j = nI k) ∧ (∀ j, j < 24 → s.1 103 (24 * k + j) = 0)
          · rw [if_pos h, if_pos (g3.mpr ⟨⟨h.1, fun j _ b => h.2.1 j b⟩, fun j _ b => h.2.2 j b⟩)]
          · rw [if_neg h, if_neg (fun q => h ⟨(g3.mp q).1.1, fun j b => (g3.mp q).1.2 j (by omega) b, fun j b => (g3.mp q).2 j (by omega) b⟩)]
        unfold F_X10_same
        rw [isWord_k hm' hk (by omega)]
        simp only [Option.bind_some, if_neg (show ¬ (1 : Int32) = 0 by decide)]
        rw [isWord_k hm' hv (by omega)]
        simp only [Option.bind_some, if_neg (show ¬ (1 : Int32) = 0 by decide), q4, v4]
        rw [if_neg (fun q => by have := hle.mp q; omega), if_neg (fun q => q.elim q1 n60), if_neg (fun q => q.elim v1 v60), hs 100 (by omega), hs 101 (by omega), hs 102 (by omega), if_pos h2, if_pos h3, tail 0 (Or.inl rfl), tail 1 (Or.inr rfl)]
        by_cases g1 : s.1 102 k = -4
        · rw [if_pos g1]
          by_cases g2 : s.1 101 k ≤ 0
          · rw [if_pos g2]; simp only [g1, g2, true_and]
          · rw [if_neg g2]; simp [g2]
        · rw [if_neg g1]; simp [g1]
      have c2' : ∀ z : Option (Int32 × St), (if v < k then (if s.1 100 k = s.1 100 v then (if s.1 102 v = -4 then F_X10_same (nI k) (nI v) s else some (-1, s)) else some (-1, s)) else some (-1, s)) = z → F_X10_same (nI k) (nI v) s = z := by
        intro z hz
        by_cases h : v < k
        · rw [if_pos h] at hz
          by_cases h2 : s.1 100 k = s.1 100 v
          · rw [if_pos h2] at hz
            by_cases h3 : s.1 102 v = -4
            · rw [if_pos h3] at hz; exact hz
            · rw [if_neg h3] at hz
              rw [← hz]
              unfold F_X10_same
              rw [isWord_k hm hk (by omega)]
              simp only [Option.bind_some, if_neg (show ¬ (1 : Int32) = 0 by decide)]
              rw [isWord_k hm hv (by omega)]
              simp only [Option.bind_some, if_neg (show ¬ (1 : Int32) = 0 by decide), q4, v4]
              rw [if_neg (fun q => by have := hle.mp q; omega), if_neg (fun q => q.elim q1 n60), if_neg (fun q => q.elim v1 v60), if_pos h2, if_neg h3]
          · rw [if_neg h2] at hz
            rw [← hz]
            unfold F_X10_same
            rw [isWord_k hm hk (by omega)]
            simp only [Option.bind_some, if_neg (show ¬ (1 : Int32) = 0 by decide)]
            rw [isWord_k hm hv (by omega)]
            simp only [Option.bind_some, if_neg (show ¬ (1 : Int32) = 0 by decide), q4, v4]
            rw [if_neg (fun q => by have := hle.mp q; omega), if_neg (fun q => q.elim q1 n60), if_neg (fun q => q.elim v1 v60), if_neg h2]
        · rw [if_neg h] at hz
          rw [← hz]
          unfold F_X10_same
          rw [isWord_k hm hk (by omega)]
          simp only [Option.bind_some, if_neg (show ¬ (1 : Int32) = 0 by decide)]
          rw [isWord_k hm hv (by omega)]
          simp only [Option.bind_some, if_neg (show ¬ (1 : Int32) = 0 by decide), q4, v4]
          rw [if_pos (hle.mpr (by omega))]
      by_cases h : v < k
      · by_cases h2 : s.1 100 k = s.1 100 v
        · have h2' : s.1 7 k = s.1 7 v := by rw [e7, f7]; exact h2
          by_cases h3 : s.1 102 v = -4
          · have h3' : s.1 11 v = nI v := (root_own hW hv).mpr h3
            by_cases h4 : s.1 102 k = -4 ∧ s.1 101 k ≤ 0 ∧ (∀ j, j < nW → ¬ s.1 102 j = nI k) ∧ (∀ j, j < 24 → s.1 103 (24 * k + j) = 0)
            · have z1 : b1 = false := by
                cases hh : b1
                · rfl
                · obtain ⟨j, a, c⟩ := hq.mp (hb1'.mp hh); exact absurd c (h4.2.2.1 j a)
              have z2 : b2 = false := by
                cases hh : b2
                · rfl
                · exact absurd ⟨h4.2.1, h4.2.2.2⟩ (hb2'.mp hh)
              refine ⟨0, (xup s.1 11 k (nI v), s.2), (xup (xup s.1 11 k (nI v)) 102 k (nI v), s.2), c1 _ ?_, (c2 _ ?_ h h2 h3).trans (if_pos h4), ?_⟩
              · rw [if_pos h, if_pos h2', if_pos h3', if_pos ((root_own hW hk).mpr h4.1)]
                unfold F_X8_isRootOfOthers
                rw [nI_0] at hb1
                rw [hb1, z1]
                simp [hb2, z2, F_X8_setRoot, hc, q1, q2, q4, n60]
              · intro d hd; show xup s.1 11 k (nI v) d = s.1 d; rw [xup_ne hd]
              · refine INV_words (nW := nW) hT ?_ hX hB hP hO hF ?_ ?_ rfl rfl
                · refine ⟨h60, by simp [xup_ap]; exact hc, by simp [xup_ap]; exact hm, fun w hwn => ?_, fun w a b => ?_, fun w t a b => ?_, fun w t a b => ?_⟩
                  · obtain ⟨g1, g2, g3, g4, g5, g6, g7⟩ := hw w hwn
                    refine ⟨by simp [xup_ap]; exact g1, by simp [xup_ap]; exact g2, by simp [xup_ap]; exact g3, by simp [xup_ap]; exact g4, ?_, ?_, g7⟩
                    · have vm : ¬ nI v = -4 := nI_m4 (by omega)
                      by_cases e : w = k
                      · simp [xup_ap, e, vm]
                      · simp [xup_ap, e]; exact g5
                    · by_cases e : w = k
                      · right
                        have ev : ¬ v = k := by omega
                        exact ⟨v, by omega, by simp [xup_ap, e], by simp [xup_ap, ev]; exact h3, by simp [xup_ap, e]; exact h2.symm⟩
                      · rcases g6 with g6 | ⟨v', x1, x2, x3, x4⟩
                        · left; simp [xup_ap, e]; exact g6
                        · right
                          have ev : ¬ v' = k := by rintro rfl; exact h4.2.2.1 w hwn x2
                          exact ⟨v', x1, by simp [xup_ap, e]; exact x2, by simp [xup_ap, ev]; exact x3, by simp [xup_ap]; exact x4⟩
                  · obtain ⟨g1, g2, g3, g4⟩ := hz w a b
                    exact ⟨by simp [xup_ap]; exact g1, by simp [xup_ap]; exact g2, by simp [xup_ap]; exact g3, by simp [xup_ap]; exact g4⟩
                  · have := hb w t a b
                    simp only [xup_ap]
                    simpa using this
                  · have := hbb w t a b
                    simp only [xup_ap]
                    simpa using this
                · intro c a b d; rw [xup_ne (by omega), xup_ne (by omega)]
                · intro j hj; rw [xup_ne (by omega), xup_ne (by omega)]
            · refine ⟨-2, s, s, c1 _ ?_, (c2 s (fun d _ => rfl) h h2 h3).trans (if_neg h4), hinv⟩
              rw [if_pos h, if_pos h2', if_pos h3']
              by_cases h5 : s.1 102 k = -4
              · rw [if_pos ((root_own hW hk).mpr h5)]
                unfold F_X8_isRootOfOthers
                rw [nI_0] at hb1
                rw [hb1]
                cases z1 : b1
                · cases z2 : b2
                  · exfalso
                    apply h4
                    have y : s.1 101 k ≤ 0 ∧ ∀ j, j < 24 → s.1 103 (24 * k + j) = 0 := Classical.not_not.mp (fun q => by have := hb2'.mpr q; rw [z2] at this; cases this)
                    exact ⟨h5, y.1, fun j a c => (by have := hb1'.mpr (hq.mpr ⟨j, a, c⟩); rw [z1] at this; cases this), y.2⟩
                  · simp [hb2, z2]
                · simp
              · rw [if_neg (fun q => h5 ((root_own hW hk).mp q))]
          · refine ⟨-1, s, s, c1 _ ?_, c2' _ ?_, hinv⟩
            · rw [if_pos h, if_pos h2', if_neg (fun q => h3 ((root_own hW hv).mp q))]
            · rw [if_pos h, if_pos h2, if_neg h3]
        · refine ⟨-1, s, s, c1 _ ?_, c2' _ ?_, hinv⟩
          · rw [if_pos h, if_neg (by rw [e7, f7]; exact h2)]
          · rw [if_pos h, if_neg h2]
      · refine ⟨-1, s, s, c1 _ ?_, c2' _ ?_, hinv⟩
        · rw [if_neg h]
        · rw [if_neg h]
    · refine ⟨-1, s, s, ?_, ?_, hinv⟩
      · unfold F_X9_same; rw [whas_k hc hk (by omega)]; simp [whas_o hc hout]
      · unfold F_X10_same; rw [isWord_k hm hk (by omega)]; simp [isWord_o hm (show nW ≤ 200 by omega) hout]
  · refine ⟨-1, s, s, ?_, ?_, hinv⟩
    · unfold F_X9_same; rw [whas_o hc hout]; rfl
    · unfold F_X10_same; rw [isWord_o hm (by omega) hout]; rfl
