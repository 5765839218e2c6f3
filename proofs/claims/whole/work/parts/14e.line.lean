theorem mline_k {s : St} {n : Nat} (h12 : s.1 94 12 = nI n) : ∃ s0, F_X10_line s = ((F_X10_cuts (nI n) s0).bind fun q5 => (L_X10_line_19 300 q5.1 q5.2).bind fun q10 => (L_X10_line_31 300 q5.1 q10).bind fun q34 => if (q34.1 94 17) = (0 : Int32) then (some ((q34.1 94 24), q34)) else (some (((-10 : Int32) - (q34.1 94 18)), q34))) ∧ s0.2 = s.2 ∧ (∀ c, c ≠ 94 → s0.1 c = s.1 c) ∧ (∀ j, j ≠ 12 → j ≠ 24 → j ≠ 17 → j ≠ 16 → s0.1 94 j = s.1 94 j) ∧ s0.1 94 12 = 0 ∧ s0.1 94 24 = 0 ∧ s0.1 94 17 = 0 ∧ s0.1 94 16 = 0 := by
  refine ⟨(xup (xup (xup (xup s.1 94 12 0) 94 24 0) 94 17 0) 94 16 0, s.2), ?_, rfl, fun c hc => ?_, fun j x y z w => ?_, ?_, ?_, ?_, ?_⟩
  · unfold F_X10_line
    dsimp only
    rw [h12]
  · dsimp only; rw [xup_ne hc, xup_ne hc, xup_ne hc, xup_ne hc]
  · dsimp only; rw [xup_j w, xup_j z, xup_j y, xup_j x]
  · dsimp only; rw [xup_j (by omega), xup_j (by omega), xup_j (by omega), xup_eq, if_pos rfl]
  · dsimp only; rw [xup_j (by omega), xup_j (by omega), xup_eq, if_pos rfl]
  · dsimp only; rw [xup_j (by omega), xup_eq, if_pos rfl]
  · dsimp only; rw [xup_eq, if_pos rfl]
theorem line19_0 (s : St) : L_X10_line_19 300 0 s = some s := by
  unfold L_X10_line_19
  rw [if_pos rfl]
theorem op_line : Op_line INV := by
  intro s hinv
  obtain ⟨nT, nW, n, nO, hT, hW, hX, hB, hP, hO, hF⟩ := id hinv
  obtain ⟨bc, hb⟩ := by_of hB
  obtain ⟨W, hWK, rfl⟩ := WK_of hW hX
  have h200 := hb.1
  have hT24 : nT ≤ 24 := hT.2.1
  obtain ⟨T, r, a1, a2, a3, a4, a5, a6, a7, a8⟩ := Ab_of hP hO hT24
  obtain ⟨s1, b1, b2, b3, b4, b5, b6, b7, b8, b9, b10, b11⟩ := begin_k hb hWK hB.2.1
  have hL := TkL_len W bc n n
  have hTk := TkL_ok hWK bc n
  have hE : EOK (mkE s nT W (TkL W bc n n)) := EOK_mk hT hW hTk (by omega)
  have hTE : eT (mkE s nT W (TkL W bc n n)) = nT := rfl
  have hem : em (mkE s nT W (TkL W bc n n)) = (TkL W bc n n).length := rfl
  generalize hEd : mkE s nT W (TkL W bc n n) = E at hE hTE hem
  have hok : AOK E (T, [], r, s.1 94 25) := by
    refine ⟨fun p hp => ?_, fun r' h => (by cases h), ?_⟩
    · rw [hTE]; exact a3 p hp
    · unfold ROK; rw [hTE]; exact ⟨a6, a7, a8⟩
  have hC1 : CA s1 (T, [], r, s.1 94 25) := ⟨CT_congr a1 (fun c x y => b3 c (by omega) (by omega) (by omega) (by omega)), by rw [b5]; rfl, by simp, by rw [b6]; exact hO.2.2.2.1, fun i r' h => by simp at h, CO_congr a4 (fun c x y => b3 c (by omega) (by omega) (by omega) (by omega))⟩
  -- the model's beginning, on whatever the class leaves
  have hmod : ∀ s2 : St, s2.2 = s.2 → (∀ c, 94 ≤ c → s2.1 c = s.1 c) → BY s2 n bc → WK s2 W → ∃ s0, F_X10_line s2 = ((F_X10_cuts (nI n) s0).bind fun q5 => (L_X10_line_19 300 q5.1 q5.2).bind fun q10 => (L_X10_line_31 300 q5.1 q10).bind fun q34 => if (q34.1 94 17) = (0 : Int32) then (some ((q34.1 94 24), q34)) else (some (((-10 : Int32) - (q34.1 94 18)), q34))) ∧ s0.2 = s.2 ∧ (∀ c, c ≠ 94 → s0.1 c = s2.1 c) ∧ (∀ j, j ≠ 12 → j ≠ 24 → j ≠ 17 → j ≠ 16 → s0.1 94 j = s.1 94 j) ∧ s0.1 94 12 = 0 ∧ s0.1 94 24 = 0 ∧ s0.1 94 17 = 0 ∧ s0.1 94 16 = 0 ∧ BY s0 n bc ∧ WK s0 W := by
    intro s2 x2 xc xb xw
    obtain ⟨s0, m1, m2, m3, m4, m5, m6, m7, m8⟩ := mline_k (s := s2) (n := n) (by rw [xc 94 (by omega)]; exact hB.2.2.1)
    refine ⟨s0, m1, by rw [m2, x2], m3, fun j p q u v => by rw [m4 j p q u v, xc 94 (by omega)], m5, m6, m7, m8, BY_congr xb (m3 13 (by omega)) (m3 104 (by omega)), WK_congr xw m2 (fun c x => m3 c (by omega)) (m4 5 (by omega) (by omega) (by omega) (by omega))⟩
  have hMA0 : ∀ s0 : St, (∀ c, 107 ≤ c → c ≤ 115 → s0.1 c = s.1 c) → s0.1 94 24 = 0 → (∀ j, 25 ≤ j → j ≤ 28 → s0.1 94 j = s.1 94 j) → MA s0 (T, [], r, s.1 94 25) := by
    intro s0 y1 y2 y3
    refine ⟨?_, by rw [y2]; rfl, by simp, y3 25 (by omega) (by omega), fun i r' h => by simp at h, MLa_congr a5 (y1 _ (by omega) (by omega)) (y1 _ (by omega) (by omega)) (fun j x y => y3 j (by omega) y)⟩
    unfold MT at a2 ⊢
    dsimp only
    rw [y1 114 (by omega) (by omega), y1 115 (by omega) (by omega)]
    exact a2
  by_cases hgood : ∀ j, j < n → okB (bc j)
  · -- a line of good bytes
    have hTC := b10 hgood
    have hCE : CE s1 E := by rw [← hEd]; exact CE_mk hT hW (fun c x => b3 c (by omega) (by omega) (by omega) (by omega)) hTC
    obtain ⟨s2, c1, c2, c3, c4, c5⟩ := line_k hE 300 (T, [], r, s.1 94 25) 0 0 s1 (by omega) (by omega) (by omega) hCE hC1 hok (by rw [b7]; rfl)
    rw [nI_0] at c1
    obtain ⟨k1, k2⟩ := sLine_ok hE 300 (T, [], r, s.1 94 25) 0 hok (by omega)
    have xc : ∀ c, 94 ≤ c → s2.1 c = s.1 c := fun c h => by rw [c2.2 c (by omega)]; exact b3 c (by omega) (by omega) (by omega) (by omega)
    have xl : ∀ c, c ≤ 11 → s2.1 c = s.1 c := fun c h => by rw [c2.2 c (by omega)]; exact b3 c (by omega) (by omega) (by omega) (by omega)
    have x13 : s2.1 13 = s.1 13 := by rw [c2.2 13 (by omega)]; exact b3 13 (by omega) (by omega) (by omega) (by omega)
    have x2 : s2.2 = s.2 := by rw [c2.1, b2]
    have xb : BY s2 n bc := BY_congr hb x13 (xc 104 (by omega))
    have xw : WK s2 W := WK_congr hWK x2 (fun c h => by rcases h with h | h; exact xl c (by omega); exact xc c (by omega)) (by rw [xc 94 (by omega)])
    obtain ⟨s0, m1, m2, m3, m4, m5, m6, m7, m8, m9, m10⟩ := hmod s2 x2 xc xb xw
    obtain ⟨s3, p1, p2, p3⟩ := (cut_k m9 m10).1 hgood
    have hME3 : ME s3 E := by
      rw [← hEd]
      exact ME_mk hT hW hWK hTk (fun c x y => by rw [p2.2.1 c (by omega) (by omega) (by omega), m3 c (by omega)]; exact xc c (by omega)) (by rw [p2.2.2 1 (by omega)]; exact m4 1 (by omega) (by omega) (by omega) (by omega)) p3
    have hMA3 : MA s3 (T, [], r, s.1 94 25) := hMA0 s3 (fun c x y => by rw [p2.2.1 c (by omega) (by omega) (by omega), m3 c (by omega)]; exact xc c (by omega)) (by rw [p2.2.2 24 (by omega)]; exact m6) (fun j x y => by rw [p2.2.2 j (by omega)]; exact m4 j (by omega) (by omega) (by omega) (by omega))
    obtain ⟨s4, q1, q2, q3⟩ := skip19 hE 300 0 s3 (by omega) (by omega) hME3 (by rw [p2.2.2 16 (by omega)]; exact m8)
    obtain ⟨s5, u1, u2, u3, u4, u5⟩ := line_m hE 300 (T, [], r, s.1 94 25) 0 s4 (by omega) (by omega) (ME_MF hME3 (MF_MJ q2)) (MA_MF2 hMA3 (MF2_of (MF_MJ q2))) hok q3
    generalize sLine E 300 (T, [], r, s.1 94 25) 0 = R at c3 c4 c5 k1 k2 u3 u4 u5
    -- cells of the last state
    have z2 : s5.2 = s.2 := by rw [u2.1, q2.1, p2.1, m2]
    have zc : ∀ c, c < 94 → s5.1 c = s2.1 c := fun c h => by rw [u2.2.1 c (by omega) (by omega), q2.2.1 c (by omega), p2.2.1 c (by omega) (by omega) (by omega), m3 c (by omega)]
    have zm : ∀ c, 96 ≤ c → c ≤ 103 → s5.1 c = s.1 c := fun c x y => by rw [u2.2.1 c (by omega) (by omega), q2.2.1 c (by omega), p2.2.1 c (by omega) (by omega) (by omega), m3 c (by omega)]; exact xc c (by omega)
    have zj : ∀ j, j < 15 → s5.1 94 j = s0.1 94 j := fun j h => by rw [u2.2.2 j (by omega), q2.2.2 j (by omega), p2.2.2 j (by omega)]
    have hC5 : CA s5 R.1 := CA_congr c3 (fun c x => zc c (by omega))
    have h17 : s4.1 94 17 = 0 := by rw [q2.2.2 17 (by omega), p2.2.2 17 (by omega)]; exact m7
    have hfin : s5.1 80 9 = s5.1 94 17 → INV s5 := fun hf => INV_line hT hW hX z2 (fun c x => by
        rcases x with x | x
        · rw [zc c (by omega)]; exact xl c x
        · exact zm c x.1 x.2) (by rw [zj 1 (by omega)]; exact m4 1 (by omega) (by omega) (by omega) (by omega)) (by rw [zj 5 (by omega)]; exact m4 5 (by omega) (by omega) (by omega) (by omega)) (by rw [zc 12 (by omega), c2.2 12 (by omega)]; exact b4) (by rw [zj 12 (by omega)]; exact m5) hC5 u3 k1 hTE hf
    have hrunM : F_X10_line s2 = if (s5.1 94 17) = (0 : Int32) then (some ((s5.1 94 24), s5)) else (some (((-10 : Int32) - (s5.1 94 18)), s5)) := by
      rw [m1, p1, Option.bind_some]
      dsimp only
      rw [q1, Option.bind_some, u1, Option.bind_some]
    have hrunC : F_X9_line s = if (s2.1 80 9) = (0 : Int32) then (some ((s2.1 23 2), s2)) else ((F_X2_faultPlace s2).bind fun q10 => some (((-10 : Int32) - q10.1), q10.2)) := by
      unfold F_X9_line
      rw [b1, c1, Option.bind_some]
    have hcnt : s5.1 94 24 = s2.1 23 2 := by rw [u3.2.1, c3.2.1]
    cases hR : R.2 with
    | none =>
      have e1 : s2.1 80 9 = 0 := by rw [c4 hR]; exact b8
      have e2 : s5.1 94 17 = 0 := by rw [u4 hR]; exact h17
      rw [if_pos e1] at hrunC
      rw [if_pos e2, hcnt] at hrunM
      exact ⟨_, s2, s5, hrunC, hrunM, hfin (by rw [zc 80 (by omega), e1, e2])⟩
    | some e =>
      obtain ⟨e1, e1'⟩ := c5 e hR
      obtain ⟨e2, e2'⟩ := u5 e hR
      have hf : s5.1 80 9 = s5.1 94 17 := by rw [zc 80 (by omega), e1, e2]
      by_cases hz : nI e.1 = 0
      · rw [if_pos (by rw [e1]; exact hz)] at hrunC
        rw [if_pos (by rw [e2]; exact hz), hcnt] at hrunM
        exact ⟨_, s2, s5, hrunC, hrunM, hfin hf⟩
      · rw [if_neg (by rw [e1]; exact hz)] at hrunC
        rw [if_neg (by rw [e2]; exact hz)] at hrunM
        have hle := k2 e hR
        rw [hem] at hle
        -- the place
        have h81 : s2.1 81 = s1.1 81 := c2.2 81 (by omega)
        have h84 : s2.1 84 = s1.1 84 := c2.2 84 (by omega)
        have h106 : s4.1 106 = s3.1 106 := q2.2.1 106 (by omega)
        have hpl : F_X2_faultPlace s2 = some (s5.1 94 18, s2) := by
          unfold F_X2_faultPlace F_X7_placeAt
          rw [e1', h81, h84, hTC.1, b9, e2', h106, if_neg (nI_pos (by omega))]
          rcases Nat.lt_or_ge e.2 (TkL W bc n n).length with q | q
          · have hx : (TkL W bc n n)[e.2]? = some (TkL W bc n n)[e.2] := List.getElem?_eq_getElem q
            have t1 := (hTC.2 e.2 _ hx).2.2
            have t2 := (p3.2 e.2 _ (by rw [List.getElem?_append_left q]; exact hx)).2
            rw [if_neg (nI_ge q (by omega)), if_neg (grd (n := 200) (by omega) (by omega)), nI_clamp (by omega), t1, t2, Option.bind_some]
          · have eq : e.2 = (TkL W bc n n).length := by omega
            have t2 := (p3.2 e.2 (28, 0, n) (by rw [eq]; simp)).2
            rw [if_pos (nI_le q (by omega)), t2, Option.bind_some]
        rw [hpl, Option.bind_some] at hrunC
        exact ⟨_, s2, s5, hrunC, hrunM, hfin hf⟩
  · -- a strange byte
    obtain ⟨j, ⟨j1, j2⟩, j3⟩ := pk_least (fun k => k < n ∧ ¬ okB (bc k)) (by
      apply Classical.byContradiction
      intro q
      apply hgood
      intro j hj
      apply Classical.byContradiction
      intro q2
      exact q ⟨j, hj, q2⟩)
    have j4 : ∀ j', j' < j → okB (bc j') := by
      intro j' h
      apply Classical.byContradiction
      intro q
      exact j3 j' h ⟨by omega, q⟩
    obtain ⟨d1, d2, d3⟩ := b11 j j1 j4 j2
    obtain ⟨s2, c1, c2, c3, c4, c5⟩ := strange_k b7 d1 d2
    have xc : ∀ c, 94 ≤ c → s2.1 c = s.1 c := fun c h => by rw [c3 c (by omega) (by omega) (by omega) (by omega)]; exact b3 c (by omega) (by omega) (by omega) (by omega)
    have xl : ∀ c, c ≤ 11 → s2.1 c = s.1 c := fun c h => by rw [c3 c (by omega) (by omega) (by omega) (by omega)]; exact b3 c (by omega) (by omega) (by omega) (by omega)
    have x13 : s2.1 13 = s.1 13 := by rw [c3 13 (by omega) (by omega) (by omega) (by omega)]; exact b3 13 (by omega) (by omega) (by omega) (by omega)
    have x2 : s2.2 = s.2 := by rw [c2, b2]
    have xb : BY s2 n bc := BY_congr hb x13 (xc 104 (by omega))
    have xw : WK s2 W := WK_congr hWK x2 (fun c h => by rcases h with h | h; exact xl c (by omega); exact xc c (by omega)) (by rw [xc 94 (by omega)])
    obtain ⟨s0, m1, m2, m3, m4, m5, m6, m7, m8, m9, m10⟩ := hmod s2 x2 xc xb xw
    obtain ⟨s3, p1, p2, p3, p4, p5, p6⟩ := (cut_k m9 m10).2 j j1 j4 j2
    have hrunM : F_X10_line s2 = some ((-10 : Int32) - nI j, s3) := by
      rw [m1, p1, Option.bind_some]
      dsimp only
      rw [line19_0, Option.bind_some, line31_0 299, Option.bind_some, p5, if_neg (by decide), p6]
    have hrunC : F_X9_line s = some ((-10 : Int32) - nI j, s2) := by
      have hl : L_X9_line_12 300 1 0 s1 = some s2 := by
        unfold L_X9_line_12
        rw [if_neg (by decide), if_neg (by decide), c1, Option.bind_some]
        unfold L_X9_line_12
        rw [if_pos rfl]
      have hpl : F_X2_faultPlace s2 = some (nI j, s2) := by
        unfold F_X2_faultPlace F_X7_placeAt
        rw [c5, c3 81 (by omega) (by omega) (by omega) (by omega), d1, if_neg (by decide), if_neg (by decide), if_neg (by decide), c3 84 (by omega) (by omega) (by omega) (by omega), show (0 : Int32).toNatClampNeg = 0 from rfl, d3, Option.bind_some]
      unfold F_X9_line
      rw [b1, hl, Option.bind_some, c4, if_neg (by decide), hpl, Option.bind_some]
    refine ⟨_, s2, s3, hrunC, hrunM, ?_⟩
    have zc : ∀ c, c < 94 → s3.1 c = s2.1 c := fun c h => by rw [p3 c (by omega), m3 c (by omega)]
    have hC3 : CA s3 (T, [], r, s.1 94 25) := CA_congr hC1 (fun c x => by rw [zc c (by omega)]; exact c3 c (by omega) (by omega) (by omega) (by omega))
    have hM3 : MA s3 (T, [], r, s.1 94 25) := hMA0 s3 (fun c x y => by rw [p3 c (by omega), m3 c (by omega)]; exact xc c (by omega)) (by rw [p4 24 (by omega) (by omega) (by omega)]; exact m6) (fun j x y => by rw [p4 j (by omega) (by omega) (by omega)]; exact m4 j (by omega) (by omega) (by omega) (by omega))
    exact INV_line hT hW hX (by rw [p2, m2]) (fun c x => by
        rcases x with x | x
        · rw [zc c (by omega)]; exact xl c x
        · rw [p3 c (by omega), m3 c (by omega)]; exact xc c (by omega)) (by rw [p4 1 (by omega) (by omega) (by omega)]; exact m4 1 (by omega) (by omega) (by omega) (by omega)) (by rw [p4 5 (by omega) (by omega) (by omega)]; exact m4 5 (by omega) (by omega) (by omega) (by omega)) (by rw [zc 12 (by omega), c3 12 (by omega) (by omega) (by omega) (by omega)]; exact b4) (by rw [p4 12 (by omega) (by omega) (by omega)]; exact m5) hC3 hM3 hok hTE (by rw [zc 80 (by omega), c4, p5])
