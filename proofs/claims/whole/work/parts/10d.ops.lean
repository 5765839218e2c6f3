/-- what stays when only cells of words (and no key) are changed -/
theorem INV_words {s : St} {I' : Nat → Nat → Int32} {J' : Nat → Nat → Int64} {nT nW nB nO : Nat} (hT : IT s nT) (hW : IW (I', J') nW) (hX : IX s) (hB : IB s nB) (hP : IP s nT) (hO : IO s nT nO) (hF : s.1 80 9 = s.1 94 17)
    (h : ∀ c, ¬ (4 ≤ c ∧ c ≤ 11) → c ≠ 94 → ¬ (100 ≤ c ∧ c ≤ 103) → I' c = s.1 c) (h4 : ∀ j, j ≠ 5 → I' 94 j = s.1 94 j) (h5 : J' 5 = s.2 5) (h95 : J' 95 = s.2 95) : INV (I', J') :=
  ⟨nT, nW, nB, nO, IT_congr hT (h 1 (by omega) (by omega) (by omega)) (h 2 (by omega) (by omega) (by omega)) (h 3 (by omega) (by omega) (by omega)) (h 96 (by omega) (by omega) (by omega)) (h 97 (by omega) (by omega) (by omega)) (h 98 (by omega) (by omega) (by omega)) (h4 1 (by omega)), hW, IX_congr hX h5 h95,
    IB_congr hB (h 12 (by omega) (by omega) (by omega)) (h 13 (by omega) (by omega) (by omega)) (h 104 (by omega) (by omega) (by omega)) (h4 12 (by omega)),
    IP_congr hP (fun c a b => h c (by omega) (by omega) (by omega)) (h 114 (by omega) (by omega) (by omega)) (h 115 (by omega) (by omega) (by omega)),
    IO_congr hO (h 23 (by omega) (by omega) (by omega)) (fun c a b => h c (by omega) (by omega) (by omega)) (fun c a b => h c (by omega) (by omega) (by omega)) (fun j a b => h4 j (by omega)),
    by show I' 80 9 = I' 94 17; rw [h 80 (by omega) (by omega) (by omega), h4 17 (by omega)]; exact hF⟩
section
variable {s : St} {n k : Nat} {a z : Int32}
theorem isOwn_k (hc : s.1 4 7 = nI n) (hn : n ≤ 60) (hk : k < n) : F_X8_isOwn (nI k) z s = some (if s.1 7 k = z ∧ s.1 11 k = nI k then 1 else 0, s) := by
  obtain ⟨q1, q2, q3, q4⟩ := kf hk (by omega)
  have n60 : ¬ 60 ≤ k := by omega
  unfold F_X8_isOwn
  rw [hc, if_neg q1, if_neg q2, if_neg (fun q => q.elim q1 (by rw [q4]; exact n60)), q4]
  by_cases h1 : s.1 7 k = z
  · by_cases h2 : s.1 11 k = nI k <;> simp [h1, h2]
  · simp [h1]
theorem isOwn_o (hc : s.1 4 7 = nI n) (ho : a < 0 ∨ (¬ a < 0 ∧ nI n ≤ a)) : F_X8_isOwn a z s = some (0, s) := by
  unfold F_X8_isOwn; rw [hc]
  rcases ho with h | ⟨h, h2⟩
  · rw [if_pos h]
  · rw [if_neg h, if_pos h2]
/-- a word is its own root just where the model has no other for it -/
theorem root_own (hW : IW s n) (hk : k < n) : s.1 11 k = nI k ↔ s.1 102 k = -4 := by
  obtain ⟨h60, -, -, hw, -⟩ := hW
  obtain ⟨-, -, -, -, hr, hv, -⟩ := hw k hk
  rw [hr]
  constructor
  · intro h
    rcases hv with h4 | ⟨v, hv, e, -⟩
    · exact h4
    · rw [if_neg (by rw [e]; exact nI_m4 (by omega)), e] at h
      have := nI_inj (by omega) (by omega) h
      omega
  · intro h; rw [if_pos h]
end
theorem op_form : Op_form INV := by
  intro s a1 a2 hinv
  obtain ⟨nT, nW, nB, nO, hT, hW, hX, hB, hP, hO, hF⟩ := id hinv
  obtain ⟨h60, hc, hm, hw, hz, hb, hbb⟩ := id hW
  rcases ix_out (a := a1) (n := nW) (m := 60) (by omega) h60 with ⟨k, hk, rfl⟩ | hout
  · obtain ⟨q1, q2, q3, q4⟩ := kf hk (by omega)
    have n60 : ¬ 60 ≤ k := by omega
    have hro := root_own hW hk
    obtain ⟨e7, -, e8, -, -, -, -⟩ := hw k hk
    have hmk : ∀ z : Option (Int32 × St), (if s.1 100 k = 1 then (if s.1 102 k = -4 then ((F_X10_isIn a2 0 3 s).bind fun q6 => if q6.1 = (0 : Int32) then (some ((-1 : Int32), q6.2)) else (some ((q6.2.1 101 k), (xup q6.2.1 101 k a2, q6.2.2)))) else some (-1, s)) else some (-1, s)) = z → F_X10_form (nI k) a2 s = z := by
      intro z hz
      unfold F_X10_form
      rw [isWord_k hm hk (by omega)]
      simp only [Option.bind_some, if_neg (show ¬ (1 : Int32) = 0 by decide), q4]
      rw [if_neg (fun q => q.elim q1 n60)]
      exact hz
    by_cases hs : s.1 7 k = 1 ∧ s.1 11 k = nI k
    · have hs1 : s.1 100 k = 1 := by rw [← e7]; exact hs.1
      have hs2 : s.1 102 k = -4 := hro.mp hs.2
      rcases ix_out (a := a2) (n := 4) (m := 60) (by omega) (by omega) with ⟨v, hv, rfl⟩ | hout
      · refine ⟨s.1 101 k, (xup s.1 8 k (nI v), s.2), (xup (xup s.1 8 k (nI v)) 101 k (nI v), s.2), ?_, ?_, INV_words (nW := nW) hT ?_ hX hB hP hO hF ?_ ?_ rfl rfl⟩
        · unfold F_X9_form
          rw [isOwn_k hc h60 hk, if_pos hs]
          simp only [Option.bind_some, if_neg (show ¬ (1 : Int32) = 0 by decide)]
          rw [isBelow4_k hv]
          simp [F_X8_formOf, F_X8_setForm, hc, q1, q2, q4, n60, e8]
        · unfold F_X10_form
          rw [isWord_k (s := (xup s.1 8 k (nI v), s.2)) (by show xup s.1 8 k (nI v) 94 5 = nI nW; rw [xup_ne (by omega)]; exact hm) hk (by omega)]
          simp only [Option.bind_some, if_neg (show ¬ (1 : Int32) = 0 by decide), q4]
          rw [if_neg (fun q => q.elim q1 n60), xup_ne (show 100 ≠ 8 by omega), if_pos hs1, xup_ne (show 102 ≠ 8 by omega), if_pos hs2, isIn_k nI3 hv (by omega)]
          simp [xup_ap]
        · refine ⟨h60, ?_, ?_, fun w hwn => ?_, fun w a b => ?_, fun w t a b => ?_, fun w t a b => ?_⟩
          · simp [xup_ap]; exact hc
          · simp [xup_ap]; exact hm
          · obtain ⟨g1, g2, g3, g4, g5, g6, g7⟩ := hw w hwn
            refine ⟨by simp [xup_ap]; exact g1, by simp [xup_ap]; exact g2, ?_, ?_, by simp [xup_ap]; exact g5, by simp [xup_ap]; exact g6, g7⟩
            · by_cases e : w = k <;> simp [xup_ap, e]
              rw [← g3]
            · by_cases e : w = k
              · exact ⟨v, hv, by simp [xup_ap, e]⟩
              · obtain ⟨k', x, y⟩ := g4; exact ⟨k', x, by simp [xup_ap, e]; exact y⟩
          · have e : ¬ w = k := by omega
            obtain ⟨g1, g2, g3, g4⟩ := hz w a b
            exact ⟨by simp [xup_ap, e]; exact g1, by simp [xup_ap, e]; exact g2, by simp [xup_ap]; exact g3, by simp [xup_ap]; exact g4⟩
          · have := hb w t a b
            simp only [xup_ap]
            simpa using this
          · have := hbb w t a b
            simp only [xup_ap]
            simpa using this
        · intro c a b d; rw [xup_ne (by omega), xup_ne (by omega)]
        · intro j hj; rw [xup_ne (by omega), xup_ne (by omega)]
      · refine ⟨-1, s, s, ?_, hmk _ ?_, hinv⟩
        · unfold F_X9_form
          rw [isOwn_k hc h60 hk, if_pos hs]
          simp only [Option.bind_some, if_neg (show ¬ (1 : Int32) = 0 by decide)]
          rw [isBelow4_o hout]; rfl
        · rw [if_pos hs1, if_pos hs2, isIn_o nI3 (by omega) hout]; rfl
    · refine ⟨-1, s, s, ?_, hmk _ ?_, hinv⟩
      · unfold F_X9_form
        rw [isOwn_k hc h60 hk, if_neg hs]; rfl
      · by_cases h1 : s.1 100 k = 1
        · rw [if_pos h1, if_neg (fun h2 => hs ⟨by rw [e7]; exact h1, hro.mpr h2⟩)]
        · rw [if_neg h1]
  · refine ⟨-1, s, s, ?_, ?_, hinv⟩
    · unfold F_X9_form; rw [isOwn_o hc hout]; rfl
    · unfold F_X10_form; rw [isWord_o hm (by omega) hout]; rfl
