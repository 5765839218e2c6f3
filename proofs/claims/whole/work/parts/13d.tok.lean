section
variable {s : St} {W : Wd} {bc : Nat → Nat} {n : Nat} {l : List Nat}
theorem tokAt_mid {j : Nat} (h : lt (bc j) ≠ 0) (h0 : 0 < j) (h' : lt (bc (j - 1)) ≠ 0) : tokAt W bc n j = none := by
  unfold tokAt; rw [if_pos h, if_pos ⟨h0, h'⟩]
/-- a row of letters becomes a token, or none -/
theorem wordM_k {L : List Tok} {k e : Nat} {K : St → Option St} (hW : WK s W) (hl : isW l) (hT : TM s L) (hL : L.length ≤ 200) :
    ∃ s', (F_X10_fixedOf (lN (k256 l)) s).bind (fun q20 => (F_X10_wordOf (lN (k256 l)) q20.2).bind fun q21 => if q21.1 = (-4 : Int32) then (if q20.1 = (-4 : Int32) then ((F_X10_comes (32 : Int32) (nI k) q21.2).bind fun q24 => K q24) else ((F_X10_comes q20.1 (nI k) q21.2).bind fun q25 => K q25)) else (if q21.1 < 0 ∨ 60 ≤ (q21.1).toNatClampNeg then none else if (q21.2.1 102 (q21.1).toNatClampNeg) = (-4 : Int32) then (if (q21.2.1 100 (q21.1).toNatClampNeg) = (3 : Int32) then (K q21.2) else (if q20.1 = (-4 : Int32) then ((F_X10_comes ((100 : Int32) + q21.1) (nI k) q21.2).bind fun q30 => K q30) else ((F_X10_comes q20.1 (nI k) q21.2).bind fun q31 => K q31))) else (if (q21.2.1 102 (q21.1).toNatClampNeg) < 0 ∨ 60 ≤ ((q21.2.1 102 (q21.1).toNatClampNeg)).toNatClampNeg then none else if (q21.2.1 100 ((q21.2.1 102 (q21.1).toNatClampNeg)).toNatClampNeg) = (3 : Int32) then (K q21.2) else (if q20.1 = (-4 : Int32) then ((F_X10_comes ((100 : Int32) + (q21.2.1 102 (q21.1).toNatClampNeg)) (nI k) q21.2).bind fun q35 => K q35) else ((F_X10_comes q20.1 (nI k) q21.2).bind fun q36 => K q36))))) = K s' ∧ TM s' (L ++ ((tokOf W l).map fun t => (t.1, t.2, k)).toList) ∧ FM s s' := by
  have h60 := hW.1
  rw [fixM_l hW.2.2.2.1 hl, Option.bind_some]
  dsimp only
  rw [wordM_l h60 hW.2.2.1 hW.2.2.2.2.1 hl, Option.bind_some]
  dsimp only
  rcases find_cases hW hl with ⟨j, hj, e1, e2⟩ | ⟨e1, e2⟩ | ⟨e1, w, hw, e2⟩
  · rw [e1, e2, if_pos rfl, if_neg (nI_m4 (by omega)), tokOf_fix hj e1]
    obtain ⟨s', q1, q2, q3⟩ := comes_k (t := (j, 0, k)) (v := nI j) hT hL (by unfold encT; rw [if_pos hj])
    dsimp only at q1
    rw [q1]
    exact ⟨s', rfl, q2, q3⟩
  · rw [e1, e2, if_pos rfl, if_pos rfl, tokOf_no e1 e2]
    obtain ⟨s', q1, q2, q3⟩ := comes_k (t := (26, 0, k)) (v := 32) hT hL rfl
    dsimp only at q1
    rw [q1]
    exact ⟨s', rfl, q2, q3⟩
  · obtain ⟨t1, t2, t3⟩ := hW.2.2.2.2.2.1 w hw
    obtain ⟨u1, u2, u3⟩ := hW.2.2.2.2.2.2 _ t1
    rw [e1, e2, if_neg (nI_m4 (by omega)), if_neg (grd (n := 60) (by omega) (by omega)), nI_clamp (by omega), tokOf_w (by omega) e1 e2]
    rw [if_pos (rfl : (-4 : Int32) = -4), if_pos (rfl : (-4 : Int32) = -4)]
    have hput : ¬ W.2.2.2 (W.2.2.1 w) = 3 → ∃ s', (F_X10_comes ((100 : Int32) + nI (W.2.2.1 w)) (nI k) s).bind (fun q => K q) = K s' ∧ TM s' (L ++ ((some (23 + W.2.2.2 (W.2.2.1 w), W.2.2.1 w)).map fun t : Nat × Nat => (t.1, t.2, k)).toList) ∧ FM s s' := by
      intro c3
      obtain ⟨s', q1, q2, q3⟩ := comes_k (t := (23 + W.2.2.2 (W.2.2.1 w), W.2.2.1 w, k)) (v := (100 : Int32) + nI (W.2.2.1 w)) hT hL (by
        unfold encT; dsimp only
        rw [if_neg (by omega), if_neg (by omega), if_neg (by omega), if_neg (by omega), if_neg (by omega), show (100 : Int32) = nI 100 from rfl, nI_add])
      dsimp only at q1
      rw [q1]
      exact ⟨s', rfl, q2, q3⟩
    rcases t3 with ⟨t3, t4⟩ | t3
    · rw [if_pos t3]
      rw [t4] at u3 hput u1 ⊢
      rw [u3]
      by_cases c3 : W.2.2.2 w = 3
      · rw [if_pos (by rw [c3]; rfl), if_pos c3]
        exact ⟨s, rfl, by simpa using hT, FM_refl s⟩
      · rw [if_neg (show ¬ nI (W.2.2.2 w) = 3 from nI_ne (b := 3) c3 (by omega) (by omega)), if_neg c3]
        exact hput c3
    · rw [t3, if_neg (nI_m4 (by omega)), if_neg (grd (n := 60) (by omega) (by omega)), nI_clamp (by omega), u3]
      by_cases c3 : W.2.2.2 (W.2.2.1 w) = 3
      · rw [if_pos (by rw [c3]; rfl), if_pos c3]
        exact ⟨s, rfl, by simpa using hT, FM_refl s⟩
      · rw [if_neg (show ¬ nI (W.2.2.2 (W.2.2.1 w)) = 3 from nI_ne (b := 3) c3 (by omega) (by omega)), if_neg c3]
        exact hput c3
/-- the model parts a line -/
theorem cuts36 (h200 : n ≤ 200) (hok : ∀ j, j < n → okB (bc j)) : ∀ f k (s : St), BY s n bc → WK s W → k ≤ n → n < f + k → (k = n ∨ lt (bc k) = 0 ∨ k = 0 ∨ lt (bc (k - 1)) = 0) → TM s (TkL W bc n k) →
    ∃ s', L_X10_cuts_36 f (nI n) (nI k) s = some s' ∧ FM s s' ∧ TM s' (TkL W bc n n) := by
  intro f
  induction f with
  | zero => intro k s _ _ h1 h2; omega
  | succ f ih =>
    intro k s hb hW h1 h2 hk0 hT
    unfold L_X10_cuts_36
    by_cases e : k = n
    · rw [if_pos (nI_le (by omega) (by omega))]
      subst e
      exact ⟨s, rfl, FM_refl s, hT⟩
    have hk : k < n := by omega
    have hL := TkL_len W bc n k
    obtain ⟨b1, -, b3⟩ := hb.2 k hk
    obtain ⟨y1, y2, y3⟩ := by_sym _ b1
    rw [if_neg (nI_ge hk (by omega)), if_neg (grd (n := 200) (by omega) (by omega)), nI_clamp (by omega), b3]
    have go : ∀ s1 e, k < e → e ≤ n → (e = n ∨ lt (bc e) = 0 ∨ e = 0 ∨ lt (bc (e - 1)) = 0) → TM s1 (TkL W bc n e) → FM s s1 → ∃ s', L_X10_cuts_36 f (nI n) (nI e) s1 = some s' ∧ FM s s' ∧ TM s' (TkL W bc n n) := by
      intro s1 e he1 he2 he3 hT1 hF
      obtain ⟨s', q1, q2, q3⟩ := ih e s1 (by
        refine ⟨hb.1, fun i hi => ?_⟩
        rw [hF.2.1 13 (by omega) (by omega) (by omega), hF.2.1 104 (by omega) (by omega) (by omega)]; exact hb.2 i hi) (WK_congr hW hF.1 (fun c x => hF.2.1 c (by omega) (by omega) (by omega)) (hF.2.2 5 (by omega))) he2 (by omega) he3 hT1
      exact ⟨s', q1, FM_trans hF q2, q3⟩
    by_cases c0 : lt (bc k) = 0
    · rw [isLet_n b1 c0, Option.bind_some]
      dsimp only
      rw [if_pos rfl, b3, nI_s]
      have hnx : k + 1 = n ∨ lt (bc (k + 1)) = 0 ∨ k + 1 = 0 ∨ lt (bc (k + 1 - 1)) = 0 := Or.inr (Or.inr (Or.inr c0))
      by_cases k32 : bc k = 32
      · rw [if_pos (y3.mpr k32)]
        apply go s (k + 1) (by omega) (by omega) hnx _ (FM_refl s)
        rw [TkL_s]; unfold tokAt; rw [if_neg (fun q => q c0), if_neg (by omega), if_neg (by omega)]; simpa using hT
      rw [if_neg (fun q => k32 (y3.mp q))]
      by_cases k44 : bc k = 44
      · rw [if_pos (y1.mpr k44)]
        obtain ⟨s1, q1, q2, q3⟩ := comes_k (t := (21, 0, k)) (v := 30) hT (by omega) rfl
        dsimp only at q1
        rw [q1, Option.bind_some]
        apply go s1 (k + 1) (by omega) (by omega) hnx _ q3
        rw [TkL_s]; unfold tokAt; rw [if_neg (fun q => q c0), if_pos k44]; exact q2
      · rw [if_neg (fun q => k44 (y1.mp q))]
        have k46 : bc k = 46 := by have := hok k hk; unfold okB at this; omega
        obtain ⟨s1, q1, q2, q3⟩ := comes_k (t := (22, 0, k)) (v := 31) hT (by omega) rfl
        dsimp only at q1
        rw [q1, Option.bind_some]
        apply go s1 (k + 1) (by omega) (by omega) hnx _ q3
        rw [TkL_s]; unfold tokAt; rw [if_neg (fun q => q c0), if_neg k44, if_pos k46]; exact q2
    · rw [isLet_y b1 c0, Option.bind_some]
      dsimp only
      rw [if_neg (by decide), show (0 : Int64) = lN 0 from rfl, cuts49 hb 300 k 300 0 (by omega) (by omega) (by omega) (by omega), Option.bind_some, show k - k = 0 by omega]
      obtain ⟨w1, w2, w3, w4⟩ := wend_spec bc n 300 k (by omega) (by omega)
      have w5 : k < wend bc n 300 k := by
        rcases w4 with q | q
        · omega
        · rcases Nat.lt_or_ge k (wend bc n 300 k) with z | z
          · exact z
          · exact absurd q (by rw [show wend bc n 300 k = k by omega]; exact c0)
      obtain ⟨s1, q1, q2, q3⟩ := wordM_k (k := k) (e := 0) (K := fun q => L_X10_cuts_36 f (nI n) (nI (wend bc n 300 k)) q) hW (rowL_W (bc := bc) (n := n) (k := 7) (by omega) hk c0) hT (by omega)
      have hsk : TkL W bc n (wend bc n 300 k) = TkL W bc n k ++ ((tokOf W (rowL bc n 8 k)).map fun t => (t.1, t.2, k)).toList := by
        have := TkL_skip W bc n (wend bc n 300 k - (k + 1)) (k + 1) (fun j x y => tokAt_mid (w3 j (by omega) (by omega)) (by omega) (w3 (j - 1) (by omega) (by omega)))
        rw [show k + 1 + (wend bc n 300 k - (k + 1)) = wend bc n 300 k by omega] at this
        rw [this, TkL_s]
        unfold tokAt
        rw [if_pos c0, if_neg]
        intro q
        rcases hk0 with z | z | z | z
        · omega
        · exact c0 z
        · omega
        · exact q.2 z
      refine Exists.elim (go s1 (wend bc n 300 k) w5 w2 (by rcases w4 with q | q; exact Or.inl q; exact Or.inr (Or.inl q)) (by rw [hsk]; exact q2) q3) (fun s' h => ⟨s', ?_, h.2⟩)
      rw [← h.1, ← q1]
      rfl
end
