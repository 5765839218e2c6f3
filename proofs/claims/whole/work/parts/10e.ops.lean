section
variable {s : St} {n k t : Nat}
theorem nounsOf_k (hc : s.1 4 7 = nI n) (hn : n ≤ 60) (hk : k < n) : F_X8_nounsOf (nI k) s = some (s.1 9 k, s) := by
  obtain ⟨q1, q2, q3, q4⟩ := kf hk (by omega)
  have n60 : ¬ 60 ≤ k := by omega
  simp [F_X8_nounsOf, hc, q1, q2, q4, n60]
theorem adjsOf_k (hc : s.1 4 7 = nI n) (hn : n ≤ 60) (hk : k < n) : F_X8_adjectivesOf (nI k) s = some (s.1 10 k, s) := by
  obtain ⟨q1, q2, q3, q4⟩ := kf hk (by omega)
  have n60 : ¬ 60 ≤ k := by omega
  simp [F_X8_adjectivesOf, hc, q1, q2, q4, n60]
theorem formOf_k (hc : s.1 4 7 = nI n) (hn : n ≤ 60) (hk : k < n) : F_X8_formOf (nI k) s = some (s.1 8 k, s) := by
  obtain ⟨q1, q2, q3, q4⟩ := kf hk (by omega)
  have n60 : ¬ 60 ≤ k := by omega
  simp [F_X8_formOf, hc, q1, q2, q4, n60]
theorem rootOf_k (hc : s.1 4 7 = nI n) (hn : n ≤ 60) (hk : k < n) : F_X8_rootOf (nI k) s = some (s.1 11 k, s) := by
  obtain ⟨q1, q2, q3, q4⟩ := kf hk (by omega)
  have n60 : ¬ 60 ≤ k := by omega
  simp [F_X8_rootOf, hc, q1, q2, q4, n60]
theorem sortOf_k (hc : s.1 4 7 = nI n) (hn : n ≤ 60) (hk : k < n) : F_X8_sortOf (nI k) s = some (s.1 7 k, s) := by
  obtain ⟨q1, q2, q3, q4⟩ := kf hk (by omega)
  have n60 : ¬ 60 ≤ k := by omega
  simp [F_X8_sortOf, hc, q1, q2, q4, n60]
theorem addN9 (hc : s.1 4 7 = nI n) (hn : n ≤ 60) (hk : k < n) (ht : t < 24) : F_X8_addNamed (nI k) (nI t) 1 s = some (if bt (s.1 9 k) t then ((0 : Int32), s) else (1, (xup s.1 9 k (s.1 9 k ||| ((1 : Int32) <<< (nI t &&& 31))), s.2))) := by
  obtain ⟨q1, q2, q3, q4⟩ := kf hk (by omega)
  have n60 : ¬ 60 ≤ k := by omega
  unfold F_X8_addNamed
  rw [if_neg (by decide), nounsOf_k hc hn hk]
  simp only [Option.bind_some]
  unfold J_X8_addNamed_9
  rw [hc, if_neg q1, if_neg q2, isIn9_k ht]
  cases hb : bt (s.1 9 k) t <;> simp [bitOf_k ht, q1, q4, n60]
theorem addN10 (hc : s.1 4 7 = nI n) (hn : n ≤ 60) (hk : k < n) (ht : t < 24) : F_X8_addNamed (nI k) (nI t) 0 s = some (if bt (s.1 10 k) t then ((0 : Int32), s) else (1, (xup s.1 10 k (s.1 10 k ||| ((1 : Int32) <<< (nI t &&& 31))), s.2))) := by
  obtain ⟨q1, q2, q3, q4⟩ := kf hk (by omega)
  have n60 : ¬ 60 ≤ k := by omega
  unfold F_X8_addNamed
  rw [if_pos rfl, adjsOf_k hc hn hk]
  simp only [Option.bind_some]
  unfold J_X8_addNamed_9
  rw [hc, if_neg q1, if_neg q2, isIn9_k ht]
  cases hb : bt (s.1 10 k) t <;> simp [bitOf_k ht, q1, q4, n60]
theorem IW_name {c : Nat} {v : Int32} (hW : IW s n) (hk : k < n) (ht : t < 24) (hcc : c = 9 ∨ c = 10) (hv : v = nI ((if bt (s.1 9 k) t = true ∨ c = 9 then 1 else 0) + (if bt (s.1 10 k) t = true ∨ c = 10 then 2 else 0))) :
    IW (xup (xup s.1 c k (s.1 c k ||| ((1 : Int32) <<< (nI t &&& 31)))) 103 (24 * k + t) v, s.2) n := by
  obtain ⟨h60, hc, hm, hw, hz, hb, hbb⟩ := hW
  have hset : ∀ w i, i < 32 → bt (xup (xup s.1 c k (s.1 c k ||| ((1 : Int32) <<< (nI t &&& 31)))) 103 (24 * k + t) v 9 w) i = (bt (s.1 9 w) i || decide (c = 9 ∧ w = k ∧ i = t)) := by
    intro w i hi
    rw [xup_ne (by omega), xup_ap]
    rcases hcc with rfl | rfl
    · by_cases e : w = k
      · subst e; simp [b_set (show t < 32 by omega) hi]
      · simp [e]
    · simp
  have hset' : ∀ w i, i < 32 → bt (xup (xup s.1 c k (s.1 c k ||| ((1 : Int32) <<< (nI t &&& 31)))) 103 (24 * k + t) v 10 w) i = (bt (s.1 10 w) i || decide (c = 10 ∧ w = k ∧ i = t)) := by
    intro w i hi
    rw [xup_ne (by omega), xup_ap]
    rcases hcc with rfl | rfl
    · simp
    · by_cases e : w = k
      · subst e; simp [b_set (show t < 32 by omega) hi]
      · simp [e]
  have hne : ∀ d, d ≠ c → d ≠ 103 → xup (xup s.1 c k (s.1 c k ||| ((1 : Int32) <<< (nI t &&& 31)))) 103 (24 * k + t) v d = s.1 d := by
    intro d a b; rw [xup_ne b, xup_ne a]
  have h103 : ∀ j, xup (xup s.1 c k (s.1 c k ||| ((1 : Int32) <<< (nI t &&& 31)))) 103 (24 * k + t) v 103 j = if j = 24 * k + t then v else s.1 103 j := by
    intro j; rw [xup_eq, xup_ne (by omega)]
  have hz9 : ∀ w, ¬ w = k → xup (xup s.1 c k (s.1 c k ||| ((1 : Int32) <<< (nI t &&& 31)))) 103 (24 * k + t) v 9 w = s.1 9 w ∧ xup (xup s.1 c k (s.1 c k ||| ((1 : Int32) <<< (nI t &&& 31)))) 103 (24 * k + t) v 10 w = s.1 10 w := by
    intro w e; constructor <;> rw [xup_ne (by omega), xup_ap] <;> simp [e]
  generalize xup (xup s.1 c k (s.1 c k ||| ((1 : Int32) <<< (nI t &&& 31)))) 103 (24 * k + t) v = I' at hset hset' hne h103 hz9 ⊢
  refine ⟨h60, ?_, ?_, fun w hwn => ?_, fun w a b => ?_, fun w t' a b => ?_, fun w t' a b => ?_⟩
  · show I' 4 7 = _
    rw [hne 4 (by omega) (by omega)]; exact hc
  · show I' 94 5 = _
    rw [hne 94 (by omega) (by omega)]; exact hm
  · have := hw w hwn
    simp only [hne 7 (by omega) (by omega), hne 100 (by omega) (by omega), hne 8 (by omega) (by omega), hne 101 (by omega) (by omega), hne 11 (by omega) (by omega), hne 102 (by omega) (by omega)]
    exact this
  · have e : ¬ w = k := by omega
    obtain ⟨g1, g2, g3, g4⟩ := hz w a b
    simp only [hne 8 (by omega) (by omega), hne 101 (by omega) (by omega)]
    exact ⟨g1, g2, by rw [(hz9 w e).1]; exact g3, by rw [(hz9 w e).2]; exact g4⟩
  · show I' 103 (24 * w + t') = nI ((if bt (I' 9 w) t' then 1 else 0) + (if bt (I' 10 w) t' then 2 else 0))
    rw [hset w t' (by omega), hset' w t' (by omega), h103]
    by_cases e : 24 * w + t' = 24 * k + t
    · have e1 : w = k := by omega
      have e2 : t' = t := by omega
      subst e1; subst e2
      simp [hv]
    · have : ¬ (w = k ∧ t' = t) := by omega
      rw [if_neg e]
      have q1 : decide (c = 9 ∧ w = k ∧ t' = t) = false := by simp; intro _ a b; exact this ⟨a, b⟩
      have q2 : decide (c = 10 ∧ w = k ∧ t' = t) = false := by simp; intro _ a b; exact this ⟨a, b⟩
      rw [q1, q2]
      have := hb w t' a b
      simpa using this
  · by_cases e : t' < 32
    · have hn : ¬ t' = t := by omega
      show bt (I' 9 w) t' = false ∧ bt (I' 10 w) t' = false
      rw [hset w t' e, hset' w t' e]
      have := hbb w t' a b
      simp [hn, this.1, this.2]
    · exact ⟨b_big (by omega), b_big (by omega)⟩
end
theorem isIn1_o {s : St} {a : Int32} (h0 : ¬ a = 0) (h1 : ¬ a = 1) : F_X10_isIn a 0 1 s = some (0, s) := by
  rcases ix_out (a := a) (n := 2) (m := 24) (by omega) (by omega) with ⟨k, hk, rfl⟩ | hout
  · rcases (show k = 0 ∨ k = 1 by omega) with rfl | rfl
    · exact absurd rfl h0
    · exact absurd rfl h1
  · exact isIn_o (n := 2) (by decide) (by omega) hout
theorem op_name : Op_name INV := by
  intro s a1 a2 a3 hinv
  obtain ⟨nT, nW, nB, nO, hT, hW, hX, hB, hP, hO, hF⟩ := id hinv
  obtain ⟨h60, hc, hm, hw, hz, hb, hbb⟩ := id hW
  have hT24 := hT.2.1
  have e9 : ∀ z, J_X9_name_8 a1 a2 a3 1 s = z → (a3 = 0 ∨ a3 = 1) → F_X9_name a1 a2 a3 s = z := by
    intro z hz h
    unfold F_X9_name J_X9_name_5
    rcases h with rfl | rfl
    · rw [if_pos rfl]; exact hz
    · rw [if_neg (by decide), if_pos rfl]; exact hz
  have e9' : ∀ (b : Int32) z, (∀ b', J_X9_name_8 a1 a2 a3 b' s = z) → F_X9_name a1 a2 a3 s = z := by
    intro b z hz
    unfold F_X9_name J_X9_name_5
    split
    · exact hz _
    · split <;> exact hz _
  rcases ix_out (a := a1) (n := nW) (m := 60) (by omega) h60 with ⟨k, hk, rfl⟩ | hout
  · obtain ⟨q1, q2, q3, q4⟩ := kf hk (by omega)
    have n60 : ¬ 60 ≤ k := by omega
    have hro := root_own hW hk
    obtain ⟨e7, -, e8, -, -, -, -⟩ := hw k hk
    have hmk : ∀ z : Option (Int32 × St), (if s.1 100 k = 0 then (if s.1 102 k = -4 then ((F_X10_isThing a2 s).bind fun q6 => if q6.1 = (0 : Int32) then (some ((-1 : Int32), q6.2)) else ((F_X10_isIn a3 (0 : Int32) (1 : Int32) q6.2).bind fun q8 => if q8.1 = (0 : Int32) then (some ((-1 : Int32), q8.2)) else (if (((24 : Int32) * nI k) + a2) < 0 ∨ 1440 ≤ ((((24 : Int32) * nI k) + a2)).toNatClampNeg then none else if (((q8.2.1 103 ((((24 : Int32) * nI k) + a2)).toNatClampNeg) >>> (a3 &&& 31)) &&& (1 : Int32)) = (1 : Int32) then (some ((-2 : Int32), q8.2)) else (some ((0 : Int32), (xup q8.2.1 103 ((((24 : Int32) * nI k) + a2)).toNatClampNeg ((q8.2.1 103 ((((24 : Int32) * nI k) + a2)).toNatClampNeg) ||| ((1 : Int32) <<< (a3 &&& 31))), q8.2.2)))))) else some (-1, s)) else some (-1, s)) = z → F_X10_name (nI k) a2 a3 s = z := by
      intro z hz
      unfold F_X10_name
      rw [isWord_k hm hk (by omega)]
      simp only [Option.bind_some, if_neg (show ¬ (1 : Int32) = 0 by decide), q4]
      rw [if_neg (fun q => q.elim q1 n60)]
      exact hz
    by_cases hs : s.1 7 k = 0 ∧ s.1 11 k = nI k
    · have hs1 : s.1 100 k = 0 := by rw [← e7]; exact hs.1
      have hs2 : s.1 102 k = -4 := hro.mp hs.2
      rcases ix_out (a := a2) (n := nT) (m := 24) (by omega) (by omega) with ⟨t, ht, rfl⟩ | hout
      · have hcl : (nI (24 * k + t)).toNatClampNeg = 24 * k + t := nI_clamp (by omega)
        have hps : ¬ nI (24 * k + t) < 0 := nI_pos (by omega)
        have g : ¬ 1440 ≤ 24 * k + t := by omega
        have hv := hb k t (by omega) (by omega)
        have fin : ∀ c v, (c = 9 ∨ c = 10) → v = nI ((if bt (s.1 9 k) t = true ∨ c = 9 then 1 else 0) + (if bt (s.1 10 k) t = true ∨ c = 10 then 2 else 0)) → INV (xup (xup s.1 c k (s.1 c k ||| ((1 : Int32) <<< (nI t &&& 31)))) 103 (24 * k + t) v, s.2) := by
          intro c v hcc hv
          refine INV_words (nW := nW) hT (IW_name hW hk (by omega) hcc hv) hX hB hP hO hF ?_ ?_ rfl rfl
          · intro d h1 h2 h3; rw [xup_ne (by omega), xup_ne (by omega)]
          · intro j hj; rw [xup_ne (by omega), xup_ne (by omega)]
        -- the model after the class has set a bit
        have mset : ∀ c x (a : Int32), (c = 9 ∨ c = 10) → (a = 0 ∨ a = 1) → F_X10_name (nI k) (nI t) a (xup s.1 c k x, s.2) = (if ((s.1 103 (24 * k + t) >>> (a &&& 31)) &&& 1) = 1 then some (-2, (xup s.1 c k x, s.2)) else some (0, (xup (xup s.1 c k x) 103 (24 * k + t) (s.1 103 (24 * k + t) ||| ((1 : Int32) <<< (a &&& 31))), s.2))) := by
          intro c x a hcc ha
          have h01 : F_X10_isIn a 0 1 (xup s.1 c k x, s.2) = some (1, (xup s.1 c k x, s.2)) := by
            rcases ha with rfl | rfl <;> rfl
          unfold F_X10_name
          rw [isWord_k (s := (xup s.1 c k x, s.2)) (by show xup s.1 c k x 94 5 = nI nW; rw [xup_ne (by omega)]; exact hm) hk (by omega)]
          simp only [Option.bind_some, if_neg (show ¬ (1 : Int32) = 0 by decide), q4]
          rw [if_neg (fun q => q.elim q1 n60), xup_ne (show 100 ≠ c by omega), if_pos hs1, xup_ne (show 102 ≠ c by omega), if_pos hs2, isThing_k (s := (xup s.1 c k x, s.2)) (by show xup s.1 c k x 94 1 = nI nT; rw [xup_ne (by omega)]; exact hT.2.2.2.1) ht (by omega)]
          simp only [Option.bind_some, if_neg (show ¬ (1 : Int32) = 0 by decide), h01, nI24, nI_add, hcl]
          rw [if_neg (fun q => q.elim hps g), xup_ne (show 103 ≠ c by omega)]
        have m0 : ∀ (a : Int32), (a = 0 ∨ a = 1) → ((s.1 103 (24 * k + t) >>> (a &&& 31)) &&& 1) = 1 → F_X10_name (nI k) (nI t) a s = some (-2, s) := by
          intro a ha h
          have h01 : F_X10_isIn a 0 1 s = some (1, s) := by rcases ha with rfl | rfl <;> rfl
          unfold F_X10_name
          rw [isWord_k hm hk (by omega)]
          simp only [Option.bind_some, if_neg (show ¬ (1 : Int32) = 0 by decide), q4]
          rw [if_neg (fun q => q.elim q1 n60), if_pos hs1, if_pos hs2, isThing_k hT.2.2.2.1 ht (by omega)]
          simp only [Option.bind_some, if_neg (show ¬ (1 : Int32) = 0 by decide), h01, nI24, nI_add, hcl]
          rw [if_neg (fun q => q.elim hps g), if_pos h]
        by_cases h0 : a3 = 0
        · subst h0
          cases hbit : bt (s.1 9 k) t
          · refine ⟨0, _, _, e9 _ ?_ (Or.inl rfl), (mset 9 _ 0 (Or.inl rfl) (Or.inl rfl)).trans (if_neg ?_), fin 9 _ (Or.inl rfl) ?_⟩
            · unfold J_X9_name_8
              rw [isOwn_k hc h60 hk, if_pos hs]
              simp [has_k hT.2.2.1 ht (show nT ≤ 200 by omega), addN9 hc h60 hk (show t < 24 by omega), hbit]
            · rw [hv, hbit]; cases bt (s.1 10 k) t <;> decide
            · rw [hv, hbit]; cases bt (s.1 10 k) t <;> decide
          · refine ⟨-2, s, s, e9 _ ?_ (Or.inl rfl), m0 0 (Or.inl rfl) ?_, hinv⟩
            · unfold J_X9_name_8
              rw [isOwn_k hc h60 hk, if_pos hs]
              simp [has_k hT.2.2.1 ht (show nT ≤ 200 by omega), addN9 hc h60 hk (show t < 24 by omega), hbit]
            · rw [hv, hbit]; cases bt (s.1 10 k) t <;> decide
        · by_cases h1 : a3 = 1
          · subst h1
            cases hbit : bt (s.1 10 k) t
            · refine ⟨0, _, _, e9 _ ?_ (Or.inr rfl), (mset 10 _ 1 (Or.inr rfl) (Or.inr rfl)).trans (if_neg ?_), fin 10 _ (Or.inr rfl) ?_⟩
              · unfold J_X9_name_8
                rw [isOwn_k hc h60 hk, if_pos hs]
                simp [has_k hT.2.2.1 ht (show nT ≤ 200 by omega), addN10 hc h60 hk (show t < 24 by omega), hbit]
              · rw [hv, hbit]; cases bt (s.1 9 k) t <;> decide
              · rw [hv, hbit]; cases bt (s.1 9 k) t <;> decide
            · refine ⟨-2, s, s, e9 _ ?_ (Or.inr rfl), m0 1 (Or.inr rfl) ?_, hinv⟩
              · unfold J_X9_name_8
                rw [isOwn_k hc h60 hk, if_pos hs]
                simp [has_k hT.2.2.1 ht (show nT ≤ 200 by omega), addN10 hc h60 hk (show t < 24 by omega), hbit]
              · rw [hv, hbit]; cases bt (s.1 9 k) t <;> decide
          · refine ⟨-1, s, s, ?_, hmk _ ?_, hinv⟩
            · unfold F_X9_name
              rw [if_neg h0, if_neg h1]
              unfold J_X9_name_8
              rw [isOwn_k hc h60 hk, if_pos hs]
              simp [has_k hT.2.2.1 ht (show nT ≤ 200 by omega)]
            · rw [if_pos hs1, if_pos hs2, isThing_k hT.2.2.2.1 ht (by omega)]
              simp [isIn1_o h0 h1]
      · refine ⟨-1, s, s, e9' 0 _ (fun b' => ?_), hmk _ ?_, hinv⟩
        · unfold J_X9_name_8
          rw [isOwn_k hc h60 hk, if_pos hs]
          simp [has_o hT.2.2.1 hout]
        · rw [if_pos hs1, if_pos hs2, isThing_o hT.2.2.2.1 (by omega) hout]; rfl
    · refine ⟨-1, s, s, e9' 0 _ (fun b' => ?_), hmk _ ?_, hinv⟩
      · unfold J_X9_name_8
        rw [isOwn_k hc h60 hk, if_neg hs]; rfl
      · by_cases h1 : s.1 100 k = 0
        · rw [if_pos h1, if_neg (fun h2 => hs ⟨by rw [e7]; exact h1, hro.mpr h2⟩)]
        · rw [if_neg h1]
  · refine ⟨-1, s, s, e9' 0 _ (fun b' => ?_), ?_, hinv⟩
    · unfold J_X9_name_8; rw [isOwn_o hc hout]; rfl
    · unfold F_X10_name; rw [isWord_o hm (by omega) hout]; rfl
