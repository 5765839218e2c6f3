theorem nI2 {i : Nat} : (2 : Int32) * nI i = nI (2 * i) := by rw [show (2 : Int32) = nI 2 from rfl, pk_mul]
theorem nI24 {i : Nat} : (24 : Int32) * nI i = nI (24 * i) := by rw [show (24 : Int32) = nI 24 from rfl, pk_mul]
theorem nI48 {i : Nat} : (48 : Int32) * nI i = nI (48 * i) := by rw [show (48 : Int32) = nI 48 from rfl, pk_mul]
section
variable {s : St} {o nT k : Nat} {f : Nat → Int32} {z a : Int32}
theorem isBelow4_k (hk : k < 4) : F_X9_isBelow (nI k) 4 s = some (1, s) := isBelow_k (n := 4) hk (by omega)
theorem isBelow4_o (ho : a < 0 ∨ (¬ a < 0 ∧ nI 4 ≤ a)) : F_X9_isBelow a 4 s = some (0, s) := isBelow_o (n := 4) ho
/-- the k-th of a list -/
theorem at_k {n : Nat} (hn : n ≤ 24) (hc : s.1 o 1 = nI n) (hk : k < n) : F_X5_at o (nI k) s = some (s.1 (o + 1) k, s) := by
  obtain ⟨q1, q2, q3, q4⟩ := kf hk (by omega)
  have n24 : ¬ 24 ≤ k := by omega
  simp [F_X5_at, hc, q1, q2, q4, n24]
theorem at_o {n : Nat} (hc : s.1 o 1 = nI n) (ho : a < 0 ∨ (¬ a < 0 ∧ nI n ≤ a)) : F_X5_at o a s = some (-4, s) := by
  unfold F_X5_at; rw [hc]
  rcases ho with h | ⟨h, h2⟩
  · rw [if_pos h]
  · rw [if_neg h, if_pos h2]
end
theorem mb_p {s : St} : ∀ p, p < 4 → F_X3_meantBy (nI p) s = some (15 + 2 * p, s)
  | 0, _ => by simp [F_X3_meantBy, nI_0]
  | 1, _ => by rw [show nI 1 = 1 from rfl]; simp [F_X3_meantBy]
  | 2, _ => by rw [show nI 2 = 2 from rfl]; simp [F_X3_meantBy]
  | 3, _ => by rw [show nI 3 = 3 from rfl]; simp [F_X3_meantBy]
  | n + 4, h => by omega
theorem op_table : Op_table INV := by
  intro s a1 a2 hinv
  obtain ⟨nT, nW, nB, nO, hT, hW, hX, hB, hP, hO, hF⟩ := id hinv
  rcases ix_out (a := a1) (n := 4) (m := 24) (by omega) (by omega) with ⟨p, hp, rfl⟩ | hout
  · obtain ⟨n, hn, hc, hz, hel, -, -⟩ := hP p hp
    obtain ⟨p1, p2, p3, p4⟩ := kf hp (by omega)
    have g4 : ¬ 4 ≤ p := by omega
    rcases ix_out (a := a2) (n := n) (m := 24) (by omega) hn with ⟨k, hk, rfl⟩ | hout
    · obtain ⟨t, ht, e1, e2⟩ := hel k hk
      have e2 : s.1 114 (24 * p + k) = nI t := e2
      refine ⟨nI t, s, s, ?_, ?_, hinv⟩
      · unfold F_X9_table
        rw [isBelow4_k hp]
        simp [mb_p p hp, at_k hn hc hk, e1]
      · unfold F_X10_table
        rw [isIn_k nI3 hp (by omega)]
        have hcl : (nI (24 * p + k)).toNatClampNeg = 24 * p + k := nI_clamp (by omega)
        have hps : ¬ nI (24 * p + k) < 0 := nI_pos (by omega)
        have g96 : ¬ 96 ≤ 24 * p + k := by omega
        simp [p1, p4, g4, hz, isIn_k rfl hk (show n ≤ 200 by omega), nI24, nI_add, hcl, hps, g96, e2]
    · refine ⟨-4, s, s, ?_, ?_, hinv⟩
      · unfold F_X9_table
        rw [isBelow4_k hp]
        simp [mb_p p hp, at_o hc hout]
      · unfold F_X10_table
        rw [isIn_k nI3 hp (by omega)]
        simp [p1, p4, g4, hz, isIn_o rfl (show n ≤ 200 by omega) hout]
  · refine ⟨-1, s, s, ?_, ?_, hinv⟩
    · unfold F_X9_table; rw [isBelow4_o hout]; rfl
    · unfold F_X10_table; rw [isIn_o nI3 (by omega) hout]; rfl
/-- one side of an order, in both -/
theorem side {s : St} {o nT i sd : Nat} {a3 : Int32} (hnT : nT ≤ 24) (hi : i < 10) (hsd : sd < 2) (hl : LSt s o nT (fun k => s.1 110 (48 * i + 24 * sd + k)) (s.1 111 (2 * i + sd))) :
    ∃ r : Int32, (F_X5_at o a3 s).bind (fun q => if q.1 = (-4 : Int32) then some ((-1 : Int32), q.2) else some (q.1, q.2)) = some (r, s) ∧
      (F_X10_isIn a3 0 (s.1 111 (2 * i + sd) - 1) s).bind (fun q6 => if q6.1 = (0 : Int32) then some ((-1 : Int32), q6.2) else if nI (48 * i + 24 * sd) + a3 < 0 ∨ 480 ≤ (nI (48 * i + 24 * sd) + a3).toNatClampNeg then none else some (q6.2.1 110 (nI (48 * i + 24 * sd) + a3).toNatClampNeg, q6.2)) = some (r, s) := by
  obtain ⟨n, hn, hc, hz, hel, -, -⟩ := hl
  rcases ix_out (a := a3) (n := n) (m := 24) (by omega) hn with ⟨k, hk, rfl⟩ | hout
  · obtain ⟨t, ht, e1, e2⟩ := hel k hk
    have e2 : s.1 110 (48 * i + 24 * sd + k) = nI t := e2
    have tm4 : ¬ nI t = -4 := nI_m4 (by omega)
    refine ⟨nI t, ?_, ?_⟩
    · rw [at_k hn hc hk, e1]; simp [tm4]
    · have hcl : (nI (48 * i + 24 * sd + k)).toNatClampNeg = 48 * i + 24 * sd + k := nI_clamp (by omega)
      have hps : ¬ nI (48 * i + 24 * sd + k) < 0 := nI_pos (by omega)
      have g : ¬ 480 ≤ 48 * i + 24 * sd + k := by omega
      rw [hz, isIn_k rfl hk (by omega)]
      simp [nI_add, hcl, hps, g, e2]
  · refine ⟨-1, ?_, ?_⟩
    · rw [at_o hc hout]; rfl
    · rw [hz, isIn_o rfl (by omega) hout]; rfl
theorem op_given : Op_given INV := by
  intro s a1 a2 a3 hinv
  obtain ⟨nT, nW, nB, nO, hT, hW, hX, hB, hP, hO, hF⟩ := id hinv
  obtain ⟨hn10, hc, hm, htot, hos, hla⟩ := id hO
  have h24 := hT.2.1
  rcases ix_out (a := a1) (n := nO) (m := 24) (by omega) (by omega) with ⟨i, hi, rfl⟩ | hout
  · obtain ⟨p1, p2, p3, p4⟩ := kf hi (by omega)
    have g10 : ¬ 10 ≤ i := by omega
    obtain ⟨-, -, -, -, hl1, hl2⟩ := hos i hi
    rcases ix_out (a := a2) (n := 2) (m := 24) (by omega) (by omega) with ⟨sd, hsd, rfl⟩ | hout
    · obtain ⟨d1, d2, d3, d4⟩ := kf hsd (by omega)
      have hcl : (nI (2 * i + sd)).toNatClampNeg = 2 * i + sd := nI_clamp (by omega)
      have hps : ¬ nI (2 * i + sd) < 0 := nI_pos (by omega)
      have g20 : ¬ 20 ≤ 2 * i + sd := by omega
      have d3' : ¬ (1 : Int32) < nI sd := d3
      have hle : nI sd ≤ (1 : Int32) := by rw [show (1 : Int32) = nI 1 from rfl]; exact nI_le (by omega) (by omega)
      have hm2 : F_X10_given (nI i) (nI sd) a3 s = (F_X10_isIn a3 0 (s.1 111 (2 * i + sd) - 1) s).bind (fun q6 => if q6.1 = (0 : Int32) then some ((-1 : Int32), q6.2) else if nI (48 * i + 24 * sd) + a3 < 0 ∨ 480 ≤ (nI (48 * i + 24 * sd) + a3).toNatClampNeg then none else some (q6.2.1 110 (nI (48 * i + 24 * sd) + a3).toNatClampNeg, q6.2)) := by
        unfold F_X10_given
        rw [hm, isIn_k rfl hi (by omega)]
        simp only [Option.bind_some, if_neg (show ¬ (1 : Int32) = 0 by decide)]
        rw [show F_X10_isIn (nI sd) 0 1 s = some (1, s) from isIn_k (n := 2) (by decide) hsd (by omega)]
        simp only [Option.bind_some, if_neg (show ¬ (1 : Int32) = 0 by decide), nI2, nI24, nI48, nI_add, hcl]
        rw [if_neg (fun q => q.elim hps g20)]
      have hl : ∃ o, LSt s o nT (fun k => s.1 110 (48 * i + 24 * sd + k)) (s.1 111 (2 * i + sd)) ∧ F_X9_given (nI i) (nI sd) a3 s = (F_X5_at o a3 s).bind (fun q => if q.1 = (-4 : Int32) then some ((-1 : Int32), q.2) else some (q.1, q.2)) := by
        by_cases e : sd = 0
        · subst e
          exact ⟨30 + 5 * i + 1, hl1, by unfold F_X9_given; rw [hc]; simp [p1, p2, p4, g10, nI_0]⟩
        · have e1 : sd = 1 := by omega
          subst e1
          exact ⟨30 + 5 * i + 3, hl2, by unfold F_X9_given; rw [hc, show nI 1 = 1 from rfl]; simp [p1, p2, p4, g10]⟩
      obtain ⟨o, hl, hx⟩ := hl
      obtain ⟨r, r1, r2⟩ := side (a3 := a3) h24 (show i < 10 by omega) hsd hl
      exact ⟨r, s, s, by rw [hx]; exact r1, by rw [hm2]; exact r2, hinv⟩
    · refine ⟨-1, s, s, ?_, ?_, hinv⟩
      · unfold F_X9_given; rw [hc]
        rcases hout with h | ⟨h, h2⟩
        · simp [p1, p2, p4, g10, h]
        · have h3 : ¬ a2 ≤ (1 : Int32) := by
            have := ge_m1 (n := 2) (by omega) h2
            rw [show nI 2 - 1 = (1 : Int32) from by decide] at this
            exact Int32.not_le.mpr this
          simp [p1, p2, p4, g10, h, h3]
      · unfold F_X10_given; rw [hm, isIn_k rfl hi (by omega)]
        simp only [Option.bind_some, if_neg (show ¬ (1 : Int32) = 0 by decide)]
        rw [isIn_o (n := 2) (by decide) (by omega) hout]; rfl
  · refine ⟨-1, s, s, ?_, ?_, hinv⟩
    · unfold F_X9_given; rw [hc]
      rcases hout with h | ⟨h, h2⟩
      · rw [if_pos h]
      · rw [if_neg h, if_pos h2]
    · unfold F_X10_given; rw [hm, isIn_o rfl (by omega) hout]; rfl
theorem op_order : Op_order INV := by
  intro s a1 a2 hinv
  obtain ⟨nT, nW, nB, nO, hT, hW, hX, hB, hP, hO, hF⟩ := id hinv
  obtain ⟨hn10, hc, hm, htot, hos, hla⟩ := id hO
  rcases ix_out (a := a1) (n := nO) (m := 24) (by omega) (by omega) with ⟨i, hi, rfl⟩ | hout
  · obtain ⟨p1, p2, p3, p4⟩ := kf hi (by omega)
    have g10 : ¬ 10 ≤ i := by omega
    obtain ⟨ea, ev_, ep, -, ⟨n1, -, hc1, hz1, -⟩, ⟨n2, -, hc2, hz2, -⟩⟩ := hos i hi
    rcases ix_out (a := a2) (n := 5) (m := 24) (by omega) (by omega) with ⟨w, hw, rfl⟩ | hout
    · have hi5 : F_X10_isIn (nI w) 0 4 s = some (1, s) := isIn_k (n := 5) (by decide) hw (by omega)
      have hw5 : w = 0 ∨ w = 1 ∨ w = 2 ∨ w = 3 ∨ w = 4 := by omega
      rcases hw5 with rfl | rfl | rfl | rfl | rfl
      · exact ⟨s.1 107 i, s, s, by unfold F_X9_order; rw [hc, nI_0]; simp [p1, p2, p4, g10, ea], by unfold F_X10_order_; rw [hm, isIn_k rfl hi (by omega)]; simp only [Option.bind_some, if_neg (show ¬ (1 : Int32) = 0 by decide)]; rw [hi5, nI_0]; simp [p1, p4, g10], hinv⟩
      · exact ⟨s.1 108 i, s, s, by unfold F_X9_order; rw [hc, show nI 1 = 1 from rfl]; simp [p1, p2, p4, g10, ev_], by unfold F_X10_order_; rw [hm, isIn_k rfl hi (by omega)]; simp only [Option.bind_some, if_neg (show ¬ (1 : Int32) = 0 by decide)]; rw [hi5, show nI 1 = 1 from rfl]; simp [p1, p4, g10], hinv⟩
      · exact ⟨s.1 109 i, s, s, by unfold F_X9_order; rw [hc, show nI 2 = 2 from rfl]; simp [p1, p2, p4, g10, ep], by unfold F_X10_order_; rw [hm, isIn_k rfl hi (by omega)]; simp only [Option.bind_some, if_neg (show ¬ (1 : Int32) = 0 by decide)]; rw [hi5, show nI 2 = 2 from rfl]; simp [p1, p4, g10], hinv⟩
      · refine ⟨nI n1, s, s, by unfold F_X9_order; rw [hc, show nI 3 = 3 from rfl]; simp [p1, p2, p4, g10, hc1], ?_, hinv⟩
        have e : (2 : Int32) * nI i + nI 3 - 3 = nI (2 * i) := by
          rw [nI2, show (3 : Int32) = nI 3 from rfl, nI_add, pk_sub (by omega)]
          congr 1
        have hcl : (nI (2 * i)).toNatClampNeg = 2 * i := nI_clamp (by omega)
        have hps : ¬ nI (2 * i) < 0 := nI_pos (by omega)
        have g20 : ¬ 20 ≤ 2 * i := by omega
        unfold F_X10_order_; rw [hm, isIn_k rfl hi (by omega)]; simp only [Option.bind_some, if_neg (show ¬ (1 : Int32) = 0 by decide)]; rw [hi5]
        simp only [Option.bind_some, if_neg (show ¬ (1 : Int32) = 0 by decide)]
        rw [e, if_neg (show ¬ nI 3 = 0 by decide), if_neg (show ¬ nI 3 = 1 by decide), if_neg (show ¬ nI 3 = 2 by decide), if_neg (fun q => q.elim hps (by rw [hcl]; exact g20)), hcl, hz1]
      · refine ⟨nI n2, s, s, by unfold F_X9_order; rw [hc, show nI 4 = 4 from rfl]; simp [p1, p2, p4, g10, hc2], ?_, hinv⟩
        have e : (2 : Int32) * nI i + nI 4 - 3 = nI (2 * i + 1) := by
          rw [nI2, show (3 : Int32) = nI 3 from rfl, nI_add, pk_sub (by omega)]
          congr 1
        have hcl : (nI (2 * i + 1)).toNatClampNeg = 2 * i + 1 := nI_clamp (by omega)
        have hps : ¬ nI (2 * i + 1) < 0 := nI_pos (by omega)
        have g20 : ¬ 20 ≤ 2 * i + 1 := by omega
        unfold F_X10_order_; rw [hm, isIn_k rfl hi (by omega)]; simp only [Option.bind_some, if_neg (show ¬ (1 : Int32) = 0 by decide)]; rw [hi5]
        simp only [Option.bind_some, if_neg (show ¬ (1 : Int32) = 0 by decide)]
        rw [e, if_neg (show ¬ nI 4 = 0 by decide), if_neg (show ¬ nI 4 = 1 by decide), if_neg (show ¬ nI 4 = 2 by decide), if_neg (fun q => q.elim hps (by rw [hcl]; exact g20)), hcl, hz2]
    · have hne : ∀ k, k < 5 → ¬ a2 = nI k := by
        intro k hk q
        subst q
        rcases hout with h | ⟨h, h2⟩
        · exact nI_pos (by omega) h
        · exact nI_ge hk (by omega) h2
      refine ⟨-1, s, s, ?_, ?_, hinv⟩
      · unfold F_X9_order; rw [hc, if_neg p1, if_neg p2, if_neg (fun q => q.elim p1 (by rw [p4]; exact g10)), if_neg (show ¬ a2 = (0 : Int32) from hne 0 (by omega)), if_neg (show ¬ a2 = (1 : Int32) from hne 1 (by omega)), if_neg (show ¬ a2 = (2 : Int32) from hne 2 (by omega)), if_neg (show ¬ a2 = (3 : Int32) from hne 3 (by omega)), if_neg (show ¬ a2 = (4 : Int32) from hne 4 (by omega))]
      · unfold F_X10_order_; rw [hm, isIn_k rfl hi (by omega)]
        simp only [Option.bind_some, if_neg (show ¬ (1 : Int32) = 0 by decide)]
        rw [isIn_o (n := 5) (by decide) (by omega) hout]; rfl
  · refine ⟨-1, s, s, ?_, ?_, hinv⟩
    · unfold F_X9_order; rw [hc]
      rcases hout with h | ⟨h, h2⟩
      · rw [if_pos h]
      · rw [if_neg h, if_pos h2]
    · unfold F_X10_order_; rw [hm, isIn_o rfl (by omega) hout]; rfl
